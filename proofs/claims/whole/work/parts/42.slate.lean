/-! Series: late points placed and dropped -/
theorem nI_sub {a b : Nat} (h : b ≤ a) : nI a - nI b = nI (a - b) := i_sub (by rw [nI_add]; congr 1; omega)
theorem SRep.lt {O : GH} {M : HM} {s : Nat} {kd : Int32} {lab : Nat → Int32} {sp : List SPN} {bk : List BLK} {lt : List PT} (h : SRep O M s kd lab sp bk lt) (t : Int32) : lbn (aI M (ltt M s)) t lt.length 0 = lbl t lt := by
  have key : ∀ n o, lbn (aI M (ltt M s)) t n o = o + lbl t (rdf (fun i => (aI M (ltt M s) i, aL M (ltv M s) i)) o n) := by
    intro n
    induction n with
    | zero => intro o; rfl
    | succ n ih =>
      intro o
      rw [lbn, rdf, lbl]
      by_cases c : aI M (ltt M s) o < t
      · rw [if_pos c, if_pos c, ih]; omega
      · rw [if_neg c, if_neg c]; rfl
  rw [key, Nat.zero_add]
  congr 1
  exact h.2.2.2.2.2.2
theorem SRep.ltA {O : GH} {M : HM} {s i : Nat} {kd : Int32} {lab : Nat → Int32} {sp : List SPN} {bk : List BLK} {lt : List PT} {q : PT} (h : SRep O M s kd lab sp bk lt) (hq : lt[i]? = some q) : aI M (ltt M s) i = q.1 ∧ aL M (ltv M s) i = q.2 ∧ i < lt.length ∧ i < 40 := by
  have := rdf_at h.2.2.2.2.2.2 hq
  rw [Nat.zero_add] at this
  have hi := (List.getElem?_eq_some_iff.mp hq).1
  have := h.2.2.2.2.2.1
  exact ⟨by rw [← ‹_ = q›], by rw [← ‹_ = q›], hi, by omega⟩
def csX4_placeLate : CS := (cs_c 0 140 2 4 sp_X4_lateBelow (cs_c 0 134 2 4 sp_X4_hasLate (cs_c 0 137 2 4 sp_X4_lateTime cs_0)))
theorem csoX4_placeLate : ∀ op x na cl sp, csX4_placeLate op x = some (na, cl, sp) → CallOK 4 3 64 op x na cl sp := (cs_c_ok (caX4_placeLate_140 okX4_lateBelow) (cs_c_ok (caX4_placeLate_134 okX4_hasLate) (cs_c_ok (caX4_placeLate_137 okX4_lateTime) cs_0_ok)))
theorem xcX4_placeLate : (∀ (Q : QT) (G : GT) (pc : Nat) (L : LV) (a0 a1 : Value) (r : List Value) (M : HM) (k n : Nat), ex_i 4 6 1 false csX4_placeLate Q G (.invokevirtual 140) pc L (a1 :: a0 :: r) M k n = (e_rm r ∧ e_rc M 4 [a0, a1] ∧ sp_X4_lateBelow [a0, a1] M k n (fun v M' k' n' => G (pc + 3) L (v.toList ++ r) M' k' n'))) ∧ (∀ (Q : QT) (G : GT) (pc : Nat) (L : LV) (a0 a1 : Value) (r : List Value) (M : HM) (k n : Nat), ex_i 4 6 1 false csX4_placeLate Q G (.invokevirtual 134) pc L (a1 :: a0 :: r) M k n = (e_rm r ∧ e_rc M 4 [a0, a1] ∧ sp_X4_hasLate [a0, a1] M k n (fun v M' k' n' => G (pc + 3) L (v.toList ++ r) M' k' n'))) ∧ (∀ (Q : QT) (G : GT) (pc : Nat) (L : LV) (a0 a1 : Value) (r : List Value) (M : HM) (k n : Nat), ex_i 4 6 1 false csX4_placeLate Q G (.invokevirtual 137) pc L (a1 :: a0 :: r) M k n = (e_rm r ∧ e_rc M 4 [a0, a1] ∧ sp_X4_lateTime [a0, a1] M k n (fun v M' k' n' => G (pc + 3) L (v.toList ++ r) M' k' n'))) := ⟨(fun _ _ _ _ _ _ _ _ _ _ => xv0_2 rfl), (fun _ _ _ _ _ _ _ _ _ _ => xv0_2 rfl), (fun _ _ _ _ _ _ _ _ _ _ => xv0_2 rfl)⟩
def sp_X4_placeLate : SP := fun as M k n Q => match as with
  | [.ref s, .int t, .long v] => ∃ O kd lab sp bk lt, SRep O M s kd lab sp bk lt ∧ ∀ M', SRep O M' s kd lab sp bk (plL lt (t, v)).2 → Fr (Ss s) O O M M' → Q (some (.int (plL lt (t, v)).1)) M' k n
  | _ => False
theorem okX4_placeLate : OkX4_placeLate sp_X4_placeLate := by
  refine inX4_placeLate csoX4_placeLate ?_
  intro as M k n Q hsp
  unfold sp_X4_placeLate at hsp
  split at hsp
  rotate_left
  · exact hsp.elim
  rename_i s t v
  obtain ⟨O, kd, lab, sp, bk, lt, hS, hq⟩ := hsp
  obtain ⟨⟨h0, -, -, -, ⟨h1, h2, h3⟩, ⟨h4, h5, h6⟩⟩, ⟨o0, -, -, -, o4, o5, o6⟩⟩ := id hS.1
  have hSR := hS.1.1
  obtain ⟨hc, h40, hl⟩ := hS.2.2.2.2
  have hlb := hS.lt t
  have hle := lbl_le t lt
  have ne : ¬ ltt M s = ltv M s := fun e => by rw [e, h5] at h2; cases h2
  have ne' : ¬ ltv M s = ltt M s := fun e => ne e.symm
  have ns : ¬ s = ltt M s := fun e => by rw [← e, h0] at h2; cases h2
  refine ⟨0, 0, Nat.zero_le _, Nat.zero_le _, Nat.le_of_ble_eq_true rfl, fun G hG => ?_⟩
  generalize hkk : lbl t lt = k0 at *
  have e1 : ¬ nI k0 < 0 := nI_pos (by omega)
  have e3 : (nI k0).toNatClampNeg = k0 := nI_clamp (by omega)
  by_cases hh : hasT lt t = true
  · -- replaced
    obtain ⟨q, hq1, hq2⟩ : ∃ q, lt[k0]? = some q ∧ q.1 = t := by
      unfold hasT at hh
      rw [hkk] at hh
      cases hx : lt[k0]? with
      | none => rw [hx] at hh; cases hh
      | some q => rw [hx] at hh; exact ⟨q, rfl, of_decide_eq_true hh⟩
    obtain ⟨w1, w2, w3, w4⟩ := hS.ltA hq1
    have e2 : nI k0 < nI lt.length := nI_lt w3 (by omega)
    have e5 : nI k0 < 40 := nI_lt (b := 40) w4 (by decide)
    have e4 : vp_in (nI k0) 40 := vp_in_nI w4 (by decide)
    have f1 : ltF M s (nI k0) = t := by rw [ltF_at hc h40 w3, w1, hq2]
    refine e_g2 hG [(5, [0, 1, 2])] 60 ?_
    simp only [e_wp_s, Option.getD_some, Option.isSome_some, Option.isSome_none, xis0, xis1, xis2, xis3, xis4, e_ks, lk_k, lk_c, List.lookup_nil, gt_c, vi_i, k1_n, k1_c, k2_n, k2_c, ar_n, ar_c, pk_n, pk_c, rm_0, rm_1, rm_2, rm_3, rm_4, rm_5, rc_9, rcs, fvs, rf_s, rf_n, isI_i, isL_l, isR_r, isR_n, isR_q, ct_i, ct_l, ct_r, ct_n, ct_q, tFs, tCs, tKs, tJs, tSs, e_nf, lgs, ↓reduceIte, true_and, and_true, false_and, and_false, or_true, true_or, false_or, or_false, Nat.reduceAdd, Nat.reduceEqDiff, Nat.reduceDiv, Nat.reduceLT, Nat.reduceLeDiff, Nat.zero_add, reduceCtorEq, Bool.false_eq_true, Option.toList_some, Option.toList_none, List.cons_append, List.nil_append, not_true_eq_false, not_false_eq_true, Nat.sub_zero, dsX4_placeLate, jsX4_placeLate, xcX4_placeLate, h0, hSR, ↓sp_X4_lateBelow]
    refine ⟨_, hc, h40, ?_⟩
    rw [hlb]
    refine e_g2 hG [] 60 ?_
    simp only [e_wp_s, Option.getD_some, Option.isSome_some, Option.isSome_none, xis0, xis1, xis2, xis3, xis4, e_ks, lk_k, lk_c, List.lookup_nil, gt_c, vi_i, k1_n, k1_c, k2_n, k2_c, ar_n, ar_c, pk_n, pk_c, rm_0, rm_1, rm_2, rm_3, rm_4, rm_5, rc_9, rcs, fvs, rf_s, rf_n, isI_i, isL_l, isR_r, isR_n, isR_q, ct_i, ct_l, ct_r, ct_n, ct_q, tFs, tCs, tKs, tJs, tSs, e_nf, lgs, ↓reduceIte, true_and, and_true, false_and, and_false, or_true, true_or, false_or, or_false, Nat.reduceAdd, Nat.reduceEqDiff, Nat.reduceDiv, Nat.reduceLT, Nat.reduceLeDiff, Nat.zero_add, reduceCtorEq, Bool.false_eq_true, Option.toList_some, Option.toList_none, List.cons_append, List.nil_append, not_true_eq_false, not_false_eq_true, Nat.sub_zero, dsX4_placeLate, jsX4_placeLate, xcX4_placeLate, h0, h4, h5, h6, hSR, hc, e1, e2, e3, e4, e5, f1, ↓sp_X4_hasLate, ↓sp_X4_lateTime]
    have hpl : plL lt (t, v) = (3, insL (t, v) lt) := by unfold plL; rw [if_pos hh]
    rw [hpl] at hq
    have hins : insL (t, v) lt = lt.set k0 (t, v) := by
      have := insL_set (t, v) lt q (by show lt[lbl t lt]? = _; rw [hkk]; exact hq1) hq2
      rw [this]
      show lt.set (lbl t lt) _ = _
      rw [hkk]
    have hX : ArX M (tL M (ltv M s) k0 v) (ltt M s) (ltv M s) := ArX.rf.tL (Or.inr rfl)
    have hr := hS.r136 (sp' := sp) (bk' := bk) (lt' := insL (t, v) lt) hX (by rw [hins, List.length_set]; exact h40) (by
      refine rdf_eq (fun i x hx => ?_)
      rw [hins, List.getElem?_set] at hx
      rw [Nat.zero_add]
      simp only [haI, haL, true_and]
      by_cases c : k0 = i
      · rw [if_pos c, if_pos w3] at hx
        cases hx
        rw [if_pos c.symm, ← c, w1, hq2]
      · rw [if_neg c] at hx
        obtain ⟨u1, u2, -⟩ := hS.ltA hx
        rw [if_neg (fun z => c z.symm), u1, u2])
    have hsame : sI (tL M (ltv M s) k0 v) 136 s (nI (insL (t, v) lt).length) = tL M (ltv M s) k0 v := by
      rw [hins, List.length_set, ← hc]
      show ((mK M, mN M, up2 (mI M) 136 s (mI M 136 s), mL M, mR M, aI M, up2 (aL M) (ltv M s) k0 v, aR M) : HM) = (mK M, mN M, mI M, mL M, mR M, aI M, up2 (aL M) (ltv M s) k0 v, aR M)
      congr 3
      funext x y
      unfold up2
      by_cases c : x = 136 ∧ y = s
      · rw [if_pos c, c.1, c.2]
      · rw [if_neg c]
    rw [hsame] at hr
    exact hq _ hr.1 hr.2
  · have hh2 : ∀ q, lt[k0]? = some q → ¬ q.1 = t := fun q hx e => hh (by
      unfold hasT
      rw [hkk, hx]
      exact decide_eq_true e)
    have start : G 36 [(0, .ref s), (1, .int t), (2, .long v), (4, .int (nI k0))] [] M 0 0 := by
      by_cases c40 : lt.length = 40
      · have hpl : plL lt (t, v) = (-5, lt) := by unfold plL; rw [if_neg hh, if_pos c40]
        rw [hpl] at hq
        have e6 : ¬ nI lt.length < 0 := nI_pos (by omega)
        have e7 : ¬ nI lt.length < 40 := nI_nlt (b := 40) (by omega) (by omega)
        refine e_g2 hG [] 60 ?_
        simp only [e_wp_s, Option.getD_some, Option.isSome_some, Option.isSome_none, xis0, xis1, xis2, xis3, xis4, e_ks, lk_k, lk_c, List.lookup_nil, gt_c, vi_i, k1_n, k1_c, k2_n, k2_c, ar_n, ar_c, pk_n, pk_c, rm_0, rm_1, rm_2, rm_3, rm_4, rm_5, rc_9, rcs, fvs, rf_s, rf_n, isI_i, isL_l, isR_r, isR_n, isR_q, ct_i, ct_l, ct_r, ct_n, ct_q, tFs, tCs, tKs, tJs, tSs, e_nf, lgs, ↓reduceIte, true_and, and_true, false_and, and_false, or_true, true_or, false_or, or_false, Nat.reduceAdd, Nat.reduceEqDiff, Nat.reduceDiv, Nat.reduceLT, Nat.reduceLeDiff, Nat.zero_add, reduceCtorEq, Bool.false_eq_true, Option.toList_some, Option.toList_none, List.cons_append, List.nil_append, not_true_eq_false, not_false_eq_true, Nat.sub_zero, dsX4_placeLate, jsX4_placeLate, xcX4_placeLate, h0, hc, e6, e7]
        exact hq M hS Fr.rf
      · have hpl : plL lt (t, v) = (2, insL (t, v) lt) := by unfold plL; rw [if_neg hh, if_neg c40]
        rw [hpl] at hq
        have hins : insL (t, v) lt = lt.take k0 ++ (t, v) :: lt.drop k0 := by
          have := insL_ins (t, v) lt (by show ∀ q, lt[lbl t lt]? = _ → _; rw [hkk]; exact hh2)
          rw [this]
          show lt.take (lbl t lt) ++ _ :: lt.drop (lbl t lt) = _
          rw [hkk]
        have e6 : ¬ nI lt.length < 0 := nI_pos (by omega)
        have e7 : nI lt.length < 40 := nI_lt (b := 40) (by omega) (by decide)
        have loop : ∀ d U, k0 + d ≤ lt.length → ArX M U (ltt M s) (ltv M s) → (∀ i, aI U (ltt M s) i = if k0 + d < i ∧ i ≤ lt.length then aI M (ltt M s) (i - 1) else aI M (ltt M s) i) → (∀ i, aL U (ltv M s) i = if k0 + d < i ∧ i ≤ lt.length then aL M (ltv M s) (i - 1) else aL M (ltv M s) i) → G 61 [(0, .ref s), (1, .int t), (2, .long v), (4, .int (nI k0)), (5, .int (nI (k0 + d)))] [] U 0 0 := by
          intro d
          induction d with
          | zero =>
            intro U hd hX hI hL
            obtain ⟨x1, x2, x3, x4, x5, -⟩ := id hX
            have u0 : mK U s = 5 := by rw [x1]; exact h0
            have q4 : ltt U s = ltt M s := by unfold ltt; rw [x5]
            have q5 : ltv U s = ltv M s := by unfold ltv; rw [x5]
            have u1 : mR U 134 s = some (ltt M s) := by rw [x5]; exact h1
            have u2 : mK U (ltt M s) = 9 := by rw [x1]; exact h2
            have u3 : mN U (ltt M s) = 40 := by rw [x2]; exact h3
            have u4 : mR U 135 s = some (ltv M s) := by rw [x5]; exact h4
            have u5 : mK U (ltv M s) = 10 := by rw [x1]; exact h5
            have u6 : mN U (ltv M s) = 40 := by rw [x2]; exact h6
            have uc : mI U 136 s = nI lt.length := by rw [x3]; exact hc
            have e4 : vp_in (nI k0) 40 := vp_in_nI (by omega) (by decide)
            have e8 : ¬ nI k0 < nI k0 := nI_nlt (Nat.le_refl _) (by omega)
            refine e_g2 hG [] 60 ?_
            simp only [e_wp_s, Option.getD_some, Option.isSome_some, Option.isSome_none, xis0, xis1, xis2, xis3, xis4, e_ks, lk_k, lk_c, List.lookup_nil, gt_c, vi_i, k1_n, k1_c, k2_n, k2_c, ar_n, ar_c, pk_n, pk_c, rm_0, rm_1, rm_2, rm_3, rm_4, rm_5, rc_9, rcs, fvs, rf_s, rf_n, isI_i, isL_l, isR_r, isR_n, isR_q, ct_i, ct_l, ct_r, ct_n, ct_q, tFs, tCs, tKs, tJs, tSs, e_nf, lgs, ↓reduceIte, true_and, and_true, false_and, and_false, or_true, true_or, false_or, or_false, Nat.reduceAdd, Nat.reduceEqDiff, Nat.reduceDiv, Nat.reduceLT, Nat.reduceLeDiff, Nat.zero_add, reduceCtorEq, Bool.false_eq_true, Option.toList_some, Option.toList_none, List.cons_append, List.nil_append, not_true_eq_false, not_false_eq_true, Nat.sub_zero, dsX4_placeLate, jsX4_placeLate, xcX4_placeLate, u0, u1, u2, u3, u4, u5, u6, uc, e3, e4, e8, Nat.add_zero, hmK, hmN, hmI, hmL, hmR, haI, haL, haR, nI_1]
            have hr := hS.r136 (sp' := sp) (bk' := bk) (lt' := insL (t, v) lt) (U := tL (tI U (ltt M s) k0 t) (ltv M s) k0 v) ((hX.tI (Or.inl rfl)).tL (Or.inr rfl)) (by rw [hins, List.length_append, List.length_cons, List.length_take, List.length_drop]; omega) (by
              refine rdf_eq (fun i x hx => ?_)
              rw [hins, get_ins hle] at hx
              rw [Nat.zero_add]
              simp only [haI, haL, true_and]
              rw [hI, hL]
              by_cases c : i < k0
              · rw [if_pos c] at hx
                obtain ⟨w1, w2, -⟩ := hS.ltA hx
                rw [if_neg (show ¬ i = k0 by omega), if_neg (show ¬ i = k0 by omega), if_neg (show ¬ (k0 + 0 < i ∧ i ≤ lt.length) by omega), if_neg (show ¬ (k0 + 0 < i ∧ i ≤ lt.length) by omega), w1, w2]
              · rw [if_neg c] at hx
                by_cases c2 : i = k0
                · rw [if_pos c2] at hx
                  cases hx
                  rw [if_pos c2, if_pos c2]
                · rw [if_neg c2] at hx
                  obtain ⟨w1, w2, w3, -⟩ := hS.ltA hx
                  rw [if_neg c2, if_neg c2, if_pos (show k0 + 0 < i ∧ i ≤ lt.length by omega), if_pos (show k0 + 0 < i ∧ i ≤ lt.length by omega), w1, w2])
            have hlen : (insL (t, v) lt).length = lt.length + 1 := by rw [hins, List.length_append, List.length_cons, List.length_take, List.length_drop]; omega
            rw [hlen] at hr
            exact hq _ hr.1 hr.2
          | succ d ih =>
            intro U hd hX hI hL
            obtain ⟨x1, x2, x3, x4, x5, -⟩ := id hX
            have u0 : mK U s = 5 := by rw [x1]; exact h0
            have u1 : mR U 134 s = some (ltt M s) := by rw [x5]; exact h1
            have u2 : mK U (ltt M s) = 9 := by rw [x1]; exact h2
            have u3 : mN U (ltt M s) = 40 := by rw [x2]; exact h3
            have u4 : mR U 135 s = some (ltv M s) := by rw [x5]; exact h4
            have u5 : mK U (ltv M s) = 10 := by rw [x1]; exact h5
            have u6 : mN U (ltv M s) = 40 := by rw [x2]; exact h6
            have a1 : nI k0 < nI (k0 + (d + 1)) := nI_lt (by omega) (by omega)
            have a2 : vp_in (nI (k0 + (d + 1))) 40 := vp_in_nI (by omega) (by decide)
            have a3 : (nI (k0 + (d + 1))).toNatClampNeg = k0 + (d + 1) := nI_clamp (by omega)
            have a4 : nI (k0 + (d + 1)) - 1 = nI (k0 + d) := nI_pred (k0 + d)
            have a5 : vp_in (nI (k0 + d)) 40 := vp_in_nI (by omega) (by decide)
            have a6 : (nI (k0 + d)).toNatClampNeg = k0 + d := nI_clamp (by omega)
            have a7 : nI (k0 + (d + 1)) + -1 = nI (k0 + d) := by rw [nI_m1]; exact a4
            refine e_g2 hG [(61, [0, 1, 2, 4, 5])] 60 ?_
            simp only [e_wp_s, Option.getD_some, Option.isSome_some, Option.isSome_none, xis0, xis1, xis2, xis3, xis4, e_ks, lk_k, lk_c, List.lookup_nil, gt_c, vi_i, k1_n, k1_c, k2_n, k2_c, ar_n, ar_c, pk_n, pk_c, rm_0, rm_1, rm_2, rm_3, rm_4, rm_5, rc_9, rcs, fvs, rf_s, rf_n, isI_i, isL_l, isR_r, isR_n, isR_q, ct_i, ct_l, ct_r, ct_n, ct_q, tFs, tCs, tKs, tJs, tSs, e_nf, lgs, ↓reduceIte, true_and, and_true, false_and, and_false, or_true, true_or, false_or, or_false, Nat.reduceAdd, Nat.reduceEqDiff, Nat.reduceDiv, Nat.reduceLT, Nat.reduceLeDiff, Nat.zero_add, reduceCtorEq, Bool.false_eq_true, Option.toList_some, Option.toList_none, List.cons_append, List.nil_append, not_true_eq_false, not_false_eq_true, Nat.sub_zero, dsX4_placeLate, jsX4_placeLate, xcX4_placeLate, u0, u1, u2, u3, u4, u5, u6, a1, a2, a3, a4, a5, a6, a7, hmK, hmN, hmI, hmL, hmR, haI, haL, haR]
            refine ih _ (by omega) ((hX.tI (Or.inl rfl)).tL (Or.inr rfl)) (fun i => ?_) (fun i => ?_)
            · simp only [haI, true_and]
              by_cases c : i = k0 + (d + 1)
              · rw [if_pos c, hI, if_neg (show ¬ (k0 + (d + 1) < k0 + d ∧ k0 + d ≤ lt.length) by omega), if_pos (show k0 + d < i ∧ i ≤ lt.length by omega), c]; rfl
              · rw [if_neg c, hI]
                by_cases c2 : k0 + (d + 1) < i ∧ i ≤ lt.length
                · rw [if_pos c2, if_pos (show k0 + d < i ∧ i ≤ lt.length by omega)]
                · rw [if_neg c2, if_neg (show ¬ (k0 + d < i ∧ i ≤ lt.length) by omega)]
            · simp only [haL, true_and]
              by_cases c : i = k0 + (d + 1)
              · rw [if_pos c, hL, if_neg (show ¬ (k0 + (d + 1) < k0 + d ∧ k0 + d ≤ lt.length) by omega), if_pos (show k0 + d < i ∧ i ≤ lt.length by omega), c]; rfl
              · rw [if_neg c, hL]
                by_cases c2 : k0 + (d + 1) < i ∧ i ≤ lt.length
                · rw [if_pos c2, if_pos (show k0 + d < i ∧ i ≤ lt.length by omega)]
                · rw [if_neg c2, if_neg (show ¬ (k0 + d < i ∧ i ≤ lt.length) by omega)]
        refine e_g2 hG [(61, [0, 1, 2, 4, 5])] 60 ?_
        simp only [e_wp_s, Option.getD_some, Option.isSome_some, Option.isSome_none, xis0, xis1, xis2, xis3, xis4, e_ks, lk_k, lk_c, List.lookup_nil, gt_c, vi_i, k1_n, k1_c, k2_n, k2_c, ar_n, ar_c, pk_n, pk_c, rm_0, rm_1, rm_2, rm_3, rm_4, rm_5, rc_9, rcs, fvs, rf_s, rf_n, isI_i, isL_l, isR_r, isR_n, isR_q, ct_i, ct_l, ct_r, ct_n, ct_q, tFs, tCs, tKs, tJs, tSs, e_nf, lgs, ↓reduceIte, true_and, and_true, false_and, and_false, or_true, true_or, false_or, or_false, Nat.reduceAdd, Nat.reduceEqDiff, Nat.reduceDiv, Nat.reduceLT, Nat.reduceLeDiff, Nat.zero_add, reduceCtorEq, Bool.false_eq_true, Option.toList_some, Option.toList_none, List.cons_append, List.nil_append, not_true_eq_false, not_false_eq_true, Nat.sub_zero, dsX4_placeLate, jsX4_placeLate, xcX4_placeLate, h0, hc, e6, e7]
        have hl2 := loop (lt.length - k0) M (by omega) ArX.rf (fun i => by rw [if_neg (by omega)]) (fun i => by rw [if_neg (by omega)])
        rw [show k0 + (lt.length - k0) = lt.length by omega] at hl2
        exact hl2
    refine e_g2 hG [(5, [0, 1, 2])] 60 ?_
    simp only [e_wp_s, Option.getD_some, Option.isSome_some, Option.isSome_none, xis0, xis1, xis2, xis3, xis4, e_ks, lk_k, lk_c, List.lookup_nil, gt_c, vi_i, k1_n, k1_c, k2_n, k2_c, ar_n, ar_c, pk_n, pk_c, rm_0, rm_1, rm_2, rm_3, rm_4, rm_5, rc_9, rcs, fvs, rf_s, rf_n, isI_i, isL_l, isR_r, isR_n, isR_q, ct_i, ct_l, ct_r, ct_n, ct_q, tFs, tCs, tKs, tJs, tSs, e_nf, lgs, ↓reduceIte, true_and, and_true, false_and, and_false, or_true, true_or, false_or, or_false, Nat.reduceAdd, Nat.reduceEqDiff, Nat.reduceDiv, Nat.reduceLT, Nat.reduceLeDiff, Nat.zero_add, reduceCtorEq, Bool.false_eq_true, Option.toList_some, Option.toList_none, List.cons_append, List.nil_append, not_true_eq_false, not_false_eq_true, Nat.sub_zero, dsX4_placeLate, jsX4_placeLate, xcX4_placeLate, h0, hSR, ↓sp_X4_lateBelow]
    refine ⟨_, hc, h40, ?_⟩
    rw [hlb]
    by_cases ck : k0 < lt.length
    · have e2 : nI k0 < nI lt.length := nI_lt ck (by omega)
      have e5 : nI k0 < 40 := nI_lt (b := 40) (by omega) (by decide)
      have f1 : ¬ ltF M s (nI k0) = t := by
        rw [ltF_at hc h40 ck]
        have hx := List.getElem?_eq_getElem ck
        rw [(hS.ltA hx).1]
        exact hh2 _ hx
      refine e_g2 hG [(36, [0, 1, 2, 4])] 60 ?_
      simp only [e_wp_s, Option.getD_some, Option.isSome_some, Option.isSome_none, xis0, xis1, xis2, xis3, xis4, e_ks, lk_k, lk_c, List.lookup_nil, gt_c, vi_i, k1_n, k1_c, k2_n, k2_c, ar_n, ar_c, pk_n, pk_c, rm_0, rm_1, rm_2, rm_3, rm_4, rm_5, rc_9, rcs, fvs, rf_s, rf_n, isI_i, isL_l, isR_r, isR_n, isR_q, ct_i, ct_l, ct_r, ct_n, ct_q, tFs, tCs, tKs, tJs, tSs, e_nf, lgs, ↓reduceIte, true_and, and_true, false_and, and_false, or_true, true_or, false_or, or_false, Nat.reduceAdd, Nat.reduceEqDiff, Nat.reduceDiv, Nat.reduceLT, Nat.reduceLeDiff, Nat.zero_add, reduceCtorEq, Bool.false_eq_true, Option.toList_some, Option.toList_none, List.cons_append, List.nil_append, not_true_eq_false, not_false_eq_true, Nat.sub_zero, dsX4_placeLate, jsX4_placeLate, xcX4_placeLate, h0, hSR, hc, e1, e2, e5, f1, ↓sp_X4_hasLate, ↓sp_X4_lateTime]
      exact start
    · have e2 : ¬ nI k0 < nI lt.length := nI_nlt (by omega) (by omega)
      refine e_g2 hG [(36, [0, 1, 2, 4])] 60 ?_
      simp only [e_wp_s, Option.getD_some, Option.isSome_some, Option.isSome_none, xis0, xis1, xis2, xis3, xis4, e_ks, lk_k, lk_c, List.lookup_nil, gt_c, vi_i, k1_n, k1_c, k2_n, k2_c, ar_n, ar_c, pk_n, pk_c, rm_0, rm_1, rm_2, rm_3, rm_4, rm_5, rc_9, rcs, fvs, rf_s, rf_n, isI_i, isL_l, isR_r, isR_n, isR_q, ct_i, ct_l, ct_r, ct_n, ct_q, tFs, tCs, tKs, tJs, tSs, e_nf, lgs, ↓reduceIte, true_and, and_true, false_and, and_false, or_true, true_or, false_or, or_false, Nat.reduceAdd, Nat.reduceEqDiff, Nat.reduceDiv, Nat.reduceLT, Nat.reduceLeDiff, Nat.zero_add, reduceCtorEq, Bool.false_eq_true, Option.toList_some, Option.toList_none, List.cons_append, List.nil_append, not_true_eq_false, not_false_eq_true, Nat.sub_zero, dsX4_placeLate, jsX4_placeLate, xcX4_placeLate, h0, hSR, hc, e1, e2, ↓sp_X4_hasLate]
      exact start
