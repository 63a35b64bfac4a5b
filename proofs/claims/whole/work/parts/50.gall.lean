/-! Gatherer: begin, finish, gatherAll, readTo -/
def GW (O : GH) (M : HM) (r g : Nat) : Prop := GR M g ∧ ((O g).1 = r ∧ (O (gta M g)).1 = r ∧ (O (gva M g)).1 = r ∧ (O (grd M g)).1 = r)
theorem GP.w {O : GH} {M : HM} {r g : Nat} {l : List PT} (h : GP O M r g l) : GW O M r g := ⟨h.1, h.2.1⟩
theorem GW.frm {S : Nat → Nat × Nat → Prop} {O O' : GH} {M N : HM} {r g : Nat} (h : GW O M r g) (hF : Fr S O O' M N) (z1 : ¬ S g (O g)) (z2 : ¬ S (gta M g) (O (gta M g))) (z3 : ¬ S (gva M g) (O (gva M g))) : GW O' N r g ∧ gta N g = gta M g ∧ gva N g = gva M g ∧ grd N g = grd M g := by
  obtain ⟨⟨k0, ⟨a1, a2, a3⟩, ⟨b1, b2, b3⟩, ⟨c1, c2⟩⟩, ⟨o0, o1, o2, o3⟩⟩ := h
  have kO : ∀ a, mK M a ≠ 0 → (O a).1 = r → (O' a).1 = r := fun a h1 h2 => by rw [(hF a h1).2.1]; exact h2
  have m0 := (hF g (by rw [k0]; decide)).2.2 z1
  have m1 := (hF _ (by rw [a2]; decide)).2.2 z2
  have m2 := (hF _ (by rw [b2]; decide)).2.2 z3
  have m3 := (hF (grd M g) (by rw [c2]; decide)).1
  have eR := m0.2.2.2.2.1
  have q1 : gta N g = gta M g := by unfold gta; rw [eR]
  have q2 : gva N g = gva M g := by unfold gva; rw [eR]
  have q3 : grd N g = grd M g := by unfold grd; rw [eR]
  refine ⟨⟨⟨m0.1.trans k0, ⟨?_, ?_, ?_⟩, ⟨?_, ?_, ?_⟩, ⟨?_, ?_⟩⟩, ⟨?_, ?_, ?_, ?_⟩⟩, q1, q2, q3⟩
  · rw [eR, q1]; exact a1
  · rw [q1, m1.1]; exact a2
  · rw [q1, m1.2.1]; exact a3
  · rw [eR, q2]; exact b1
  · rw [q2, m2.1]; exact b2
  · rw [q2, m2.2.1]; exact b3
  · rw [eR, q3]; exact c1
  · rw [q3, m3]; exact c2
  · exact kO _ (by rw [k0]; decide) o0
  · rw [q1]; exact kO _ (by rw [a2]; decide) o1
  · rw [q2]; exact kO _ (by rw [b2]; decide) o2
  · rw [q3]; exact kO _ (by rw [c2]; decide) o3
theorem GW.bg {O : GH} {M : HM} {r g : Nat} (h : GW O M r g) (x y : Int32) (j : Nat) : GG O (bgM M g x y (nI j)) r g [] x y j ∧ Fr (Ss r) O O M (bgM M g x y (nI j)) := by
  obtain ⟨hR, hO⟩ := h
  refine ⟨⟨⟨hR, hO, ?_, by decide, rfl⟩, ?_, ?_, ?_⟩, fr_K rfl (fun a ha => ?_)⟩
  · unfold bgM; simp only [hmI, Nat.reduceEqDiff, false_and, and_self, if_false, if_true]; rfl
  · unfold bgM; simp only [hmI, Nat.reduceEqDiff, false_and, and_self, if_false, if_true]
  · unfold bgM; simp only [hmI, Nat.reduceEqDiff, false_and, and_self, if_false, if_true]
  · unfold bgM; simp only [hmI, and_self, if_true]
  · have a1 : a ≠ g := fun e => ha (by show (O a).1 = r; rw [e]; exact hO.1)
    exact sm_sI a1 (sm_sI a1 (sm_sI a1 (sm_sI a1 Sm.rf)))
def csX1_finish : CS := (cs_c 0 66 3 1 sp_X1_takeLateBelow cs_0)
theorem csoX1_finish : ∀ op x na cl sp, csX1_finish op x = some (na, cl, sp) → CallOK 1 3 64 op x na cl sp := (cs_c_ok (caX1_finish_66 okX1_takeLateBelow) cs_0_ok)
theorem xcX1_finish : (∀ (Q : QT) (G : GT) (pc : Nat) (L : LV) (a0 a1 a2 : Value) (r : List Value) (M : HM) (k n : Nat), ex_i 1 2 0 false csX1_finish Q G (.invokevirtual 66) pc L (a2 :: a1 :: a0 :: r) M k n = (e_rm r ∧ e_rc M 1 [a0, a1, a2] ∧ sp_X1_takeLateBelow [a0, a1, a2] M k n (fun v M' k' n' => G (pc + 3) L (v.toList ++ r) M' k' n'))) := (fun _ _ _ _ _ _ _ _ _ _ _ => xv0_3 rfl)
def sp_X1_finish : SP := fun as M k n Q => match as with
  | [.ref g, .ref s] => ∃ O r acc x y j kd lab sp bk lt, GG O M r g acc x y j ∧ SRep O M s kd lab sp bk lt ∧ r ≠ s ∧ j ≤ lt.length ∧ acc.length + (lt.length - j) ≤ 340 ∧ ∀ M', GP O M' r g (tlb lt (acc, j) y).1 → Fr (Ss r) O O M M' → Q none M' k n
  | _ => False
theorem okX1_finish : OkX1_finish sp_X1_finish := by
  refine inX1_finish csoX1_finish ?_
  intro as M k n Q hsp
  unfold sp_X1_finish at hsp
  split at hsp
  rotate_left
  · exact hsp.elim
  rename_i g s
  obtain ⟨O, r, acc, x, y, j, kd, lab, sp, bk, lt, hg, hS, hrs, hj, hlen, hq⟩ := hsp
  have g0 := hg.1.1.1
  have gy := hg.2.2.1
  refine ⟨0, 0, Nat.zero_le _, Nat.zero_le _, Nat.le_of_ble_eq_true rfl, fun G hG => ?_⟩
  refine e_g2 hG [(9, [])] 40 ?_
  simp only [e_wp_s, Option.getD_some, Option.isSome_some, Option.isSome_none, xis0, xis1, xis2, xis3, xis4, e_ks, lk_k, lk_c, List.lookup_nil, gt_c, vi_i, k1_n, k1_c, k2_n, k2_c, ar_n, ar_c, pk_n, pk_c, rm_0, rm_1, rm_2, rm_3, rm_4, rm_5, rc_9, rcs, fvs, rf_s, rf_n, isI_i, isL_l, isR_r, isR_n, isR_q, ct_i, ct_l, ct_r, ct_n, ct_q, tFs, tCs, tKs, tJs, tSs, e_nf, lgs, ↓reduceIte, true_and, and_true, false_and, and_false, or_true, true_or, false_or, or_false, Nat.reduceAdd, Nat.reduceEqDiff, Nat.reduceDiv, Nat.reduceLT, Nat.reduceLeDiff, Nat.zero_add, reduceCtorEq, Bool.false_eq_true, Option.toList_some, Option.toList_none, List.cons_append, List.nil_append, not_true_eq_false, not_false_eq_true, Nat.sub_zero, dsX1_finish, xcX1_finish, g0, gy]
  refine ⟨O, r, acc, x, y, j, kd, lab, sp, bk, lt, hg, hS, hrs, hj, hlen, fun M' hg' he hF' => ?_⟩
  refine e_g2 hG [] 40 ?_
  simp only [e_wp_s, Option.getD_some, Option.isSome_some, Option.isSome_none, xis0, xis1, xis2, xis3, xis4, e_ks, lk_k, lk_c, List.lookup_nil, gt_c, vi_i, k1_n, k1_c, k2_n, k2_c, ar_n, ar_c, pk_n, pk_c, rm_0, rm_1, rm_2, rm_3, rm_4, rm_5, rc_9, rcs, fvs, rf_s, rf_n, isI_i, isL_l, isR_r, isR_n, isR_q, ct_i, ct_l, ct_r, ct_n, ct_q, tFs, tCs, tKs, tJs, tSs, e_nf, lgs, ↓reduceIte, true_and, and_true, false_and, and_false, or_true, true_or, false_or, or_false, Nat.reduceAdd, Nat.reduceEqDiff, Nat.reduceDiv, Nat.reduceLT, Nat.reduceLeDiff, Nat.zero_add, reduceCtorEq, Bool.false_eq_true, Option.toList_some, Option.toList_none, List.cons_append, List.nil_append, not_true_eq_false, not_false_eq_true, Nat.sub_zero, dsX1_finish, xcX1_finish]
  exact hq M' hg'.1 (hg.ser (s := s) hF')
def unt (bk : List BLK) : List BLK := bk.filter (fun x => !tornB x)
def gth (lt : List PT) (x y : Int32) (pts : List PT) : List PT := (tlb lt ((pts.filter (wn x y)).foldl (gm lt) ([], lbl x lt)) y).1
theorem unt_snoc (l : List BLK) (x : BLK) : mpts (unt (l ++ [x])) = mpts (unt l) ++ if tornB x then [] else x.1 := by
  unfold unt
  rw [List.filter_append, mpts_app]
  congr 1
  by_cases c : tornB x = true
  · simp [c, mpts]
  · simp [c, mpts]
theorem unt_le : ∀ (bk : List BLK), (mpts (unt bk)).length ≤ (mpts bk).length := by
  apply list_snoc
  · exact Nat.le_refl _
  · intro l x ih
    rw [unt_snoc, mpts_app, mpts_1, List.length_append, List.length_append]
    split
    · simp; omega
    · omega
theorem take_1 {α : Type} {l : List α} {i : Nat} {x : α} (hx : l[i]? = some x) : l.take (i + 1) = l.take i ++ [x] := by rw [List.take_add_one, hx]; rfl
theorem mpts_take (bk : List BLK) (i : Nat) : (mpts (bk.take i)).length ≤ (mpts bk).length := by
  conv => rhs; rw [← List.take_append_drop i bk, mpts_app]
  rw [List.length_append]; omega
def csX1_gatherAll : CS := (cs_c 0 73 4 1 sp_X1_begin (cs_c 0 80 2 4 sp_X4_blockAt (cs_c 0 84 1 0 sp_X0_isTorn (cs_c 0 88 3 1 sp_X1_unpack (cs_c 0 92 2 1 sp_X1_finish cs_0)))))
theorem csoX1_gatherAll : ∀ op x na cl sp, csX1_gatherAll op x = some (na, cl, sp) → CallOK 1 5 111 op x na cl sp := (cs_c_ok (caX1_gatherAll_73 okX1_begin) (cs_c_ok (caX1_gatherAll_80 okX4_blockAt) (cs_c_ok (caX1_gatherAll_84 okX0_isTorn) (cs_c_ok (caX1_gatherAll_88 okX1_unpack) (cs_c_ok (caX1_gatherAll_92 okX1_finish) cs_0_ok)))))
theorem xcX1_gatherAll : (∀ (Q : QT) (G : GT) (pc : Nat) (L : LV) (a0 a1 a2 a3 : Value) (r : List Value) (M : HM) (k n : Nat), ex_i 1 4 0 false csX1_gatherAll Q G (.invokevirtual 73) pc L (a3 :: a2 :: a1 :: a0 :: r) M k n = (e_rm r ∧ e_rc M 1 [a0, a1, a2, a3] ∧ sp_X1_begin [a0, a1, a2, a3] M k n (fun v M' k' n' => G (pc + 3) L (v.toList ++ r) M' k' n'))) ∧ (∀ (Q : QT) (G : GT) (pc : Nat) (L : LV) (a0 a1 : Value) (r : List Value) (M : HM) (k n : Nat), ex_i 1 4 0 false csX1_gatherAll Q G (.invokevirtual 80) pc L (a1 :: a0 :: r) M k n = (e_rm r ∧ e_rc M 4 [a0, a1] ∧ sp_X4_blockAt [a0, a1] M k n (fun v M' k' n' => G (pc + 3) L (v.toList ++ r) M' k' n'))) ∧ (∀ (Q : QT) (G : GT) (pc : Nat) (L : LV) (a0 : Value) (r : List Value) (M : HM) (k n : Nat), ex_i 1 4 0 false csX1_gatherAll Q G (.invokevirtual 84) pc L (a0 :: r) M k n = (e_rm r ∧ e_rc M 0 [a0] ∧ sp_X0_isTorn [a0] M k n (fun v M' k' n' => G (pc + 3) L (v.toList ++ r) M' k' n'))) ∧ (∀ (Q : QT) (G : GT) (pc : Nat) (L : LV) (a0 a1 a2 : Value) (r : List Value) (M : HM) (k n : Nat), ex_i 1 4 0 false csX1_gatherAll Q G (.invokevirtual 88) pc L (a2 :: a1 :: a0 :: r) M k n = (e_rm r ∧ e_rc M 1 [a0, a1, a2] ∧ sp_X1_unpack [a0, a1, a2] M k n (fun v M' k' n' => G (pc + 3) L (v.toList ++ r) M' k' n'))) ∧ (∀ (Q : QT) (G : GT) (pc : Nat) (L : LV) (a0 a1 : Value) (r : List Value) (M : HM) (k n : Nat), ex_i 1 4 0 false csX1_gatherAll Q G (.invokevirtual 92) pc L (a1 :: a0 :: r) M k n = (e_rm r ∧ e_rc M 1 [a0, a1] ∧ sp_X1_finish [a0, a1] M k n (fun v M' k' n' => G (pc + 3) L (v.toList ++ r) M' k' n'))) := ⟨(fun _ _ _ _ _ _ _ _ _ _ _ _ => xv0_4 rfl), (fun _ _ _ _ _ _ _ _ _ _ => xv0_2 rfl), (fun _ _ _ _ _ _ _ _ _ => xv0_1 rfl), (fun _ _ _ _ _ _ _ _ _ _ _ => xv0_3 rfl), (fun _ _ _ _ _ _ _ _ _ _ => xv0_2 rfl)⟩
def sp_X1_gatherAll : SP := fun as M k n Q => match as with
  | [.ref g, .ref s] => ∃ O r kd lab sp bk lt, GW O M r g ∧ SRep O M s kd lab sp bk lt ∧ r ≠ s ∧ (mpts bk).length ≤ 300 ∧ ∀ M', GP O M' r g (gth lt 0 2147483647 (mpts (unt bk))) → Fr (Ss r) O O M M' → Q none M' k n
  | _ => False
theorem okX1_gatherAll : OkX1_gatherAll sp_X1_gatherAll := by
  refine inX1_gatherAll csoX1_gatherAll ?_
  intro as M k n Q hsp
  unfold sp_X1_gatherAll at hsp
  split at hsp
  rotate_left
  · exact hsp.elim
  rename_i g s
  obtain ⟨O, r, kd, lab, sp, bk, lt, hg, hS, hrs, h300, hq⟩ := hsp
  have h40 := hS.2.2.2.2.2.1
  have hsr : ∀ a o, o.1 = s → ¬ Ss r a o := fun a o ho e => hrs (e.symm.trans ho)
  have hbl := hS.2.2.2.1.2.1
  have hle := lbl_le 0 lt
  refine ⟨0, 0, Nat.zero_le _, Nat.zero_le _, Nat.le_of_ble_eq_true rfl, fun G hG => ?_⟩
  have loop : ∀ d i M', i + d = bk.length → GG O M' r g (((mpts (unt (bk.take i))).filter (wn 0 2147483647)).foldl (gm lt) ([], lbl 0 lt)).1 0 2147483647 (((mpts (unt (bk.take i))).filter (wn 0 2147483647)).foldl (gm lt) ([], lbl 0 lt)).2 → Fr (Ss r) O O M M' → G 10 [(0, .ref g), (1, .ref s), (2, .int (nI i))] [] M' 0 0 := by
    intro d
    induction d with
    | zero =>
      intro i M' hi hg' hF'
      have hS' := hS.frm hF' hsr
      have s0 := hS'.1.1.1
      have sc := hS'.2.2.2.1.1
      have g0 := hg'.1.1.1
      have e1 : ¬ nI i < nI bk.length := nI_nlt (by omega) (by omega)
      rw [show i = bk.length by omega, List.take_length] at hg'
      have hb := gms_le (lt := lt) ((mpts (unt bk)).filter (wn 0 2147483647)) ([], lbl 0 lt) hle
      have hb2 : ((mpts (unt bk)).filter (wn 0 2147483647)).length ≤ 300 := Nat.le_trans (List.length_filter_le _ _) (Nat.le_trans (unt_le bk) h300)
      have hb3 : (((mpts (unt bk)).filter (wn 0 2147483647)).foldl (gm lt) ([], lbl 0 lt)).1.length + (lt.length - (((mpts (unt bk)).filter (wn 0 2147483647)).foldl (gm lt) ([], lbl 0 lt)).2) ≤ 0 + (lt.length - lbl 0 lt) + ((mpts (unt bk)).filter (wn 0 2147483647)).length := hb.2
      refine e_g2 hG [(52, [])] 40 ?_
      simp only [e_wp_s, Option.getD_some, Option.isSome_some, Option.isSome_none, xis0, xis1, xis2, xis3, xis4, e_ks, lk_k, lk_c, List.lookup_nil, gt_c, vi_i, k1_n, k1_c, k2_n, k2_c, ar_n, ar_c, pk_n, pk_c, rm_0, rm_1, rm_2, rm_3, rm_4, rm_5, rc_9, rcs, fvs, rf_s, rf_n, isI_i, isL_l, isR_r, isR_n, isR_q, ct_i, ct_l, ct_r, ct_n, ct_q, tFs, tCs, tKs, tJs, tSs, e_nf, lgs, ↓reduceIte, true_and, and_true, false_and, and_false, or_true, true_or, false_or, or_false, Nat.reduceAdd, Nat.reduceEqDiff, Nat.reduceDiv, Nat.reduceLT, Nat.reduceLeDiff, Nat.zero_add, reduceCtorEq, Bool.false_eq_true, Option.toList_some, Option.toList_none, List.cons_append, List.nil_append, not_true_eq_false, not_false_eq_true, Nat.sub_zero, dsX1_gatherAll, jsX1_gatherAll, xcX1_gatherAll, s0, sc, g0, e1]
      refine ⟨O, r, _, _, _, _, kd, lab, sp, bk, lt, hg', hS', hrs, hb.1, by omega, fun M2 hg2 hF2 => ?_⟩
      refine e_g2 hG [] 40 ?_
      simp only [e_wp_s, Option.getD_some, Option.isSome_some, Option.isSome_none, xis0, xis1, xis2, xis3, xis4, e_ks, lk_k, lk_c, List.lookup_nil, gt_c, vi_i, k1_n, k1_c, k2_n, k2_c, ar_n, ar_c, pk_n, pk_c, rm_0, rm_1, rm_2, rm_3, rm_4, rm_5, rc_9, rcs, fvs, rf_s, rf_n, isI_i, isL_l, isR_r, isR_n, isR_q, ct_i, ct_l, ct_r, ct_n, ct_q, tFs, tCs, tKs, tJs, tSs, e_nf, lgs, ↓reduceIte, true_and, and_true, false_and, and_false, or_true, true_or, false_or, or_false, Nat.reduceAdd, Nat.reduceEqDiff, Nat.reduceDiv, Nat.reduceLT, Nat.reduceLeDiff, Nat.zero_add, reduceCtorEq, Bool.false_eq_true, Option.toList_some, Option.toList_none, List.cons_append, List.nil_append, not_true_eq_false, not_false_eq_true, Nat.sub_zero, dsX1_gatherAll, jsX1_gatherAll, xcX1_gatherAll]
      exact hq M2 hg2 (hF'.tr hF2)
    | succ d ih =>
      intro i M' hi hg' hF'
      have hS' := hS.frm hF' hsr
      have s0 := hS'.1.1.1
      have sR := hS'.1.1
      have sc := hS'.2.2.2.1.1
      have g0 := hg'.1.1.1
      have e1 : nI i < nI bk.length := nI_lt (by omega) (by omega)
      obtain ⟨x, hx⟩ : ∃ x, bk[i]? = some x := ⟨_, List.getElem?_eq_getElem (by omega)⟩
      obtain ⟨b, fb, -, hB, -⟩ := hS'.bAt hx
      have b0 := hB.K
      have ih2 := ih (i + 1)
      rw [take_1 hx, unt_snoc] at ih2
      by_cases c : tornB x = true
      · have ht := hB.torn.mpr c
        rw [if_pos c, List.append_nil] at ih2
        refine e_g2 hG [(10, [0, 1, 2])] 40 ?_
        simp only [e_wp_s, Option.getD_some, Option.isSome_some, Option.isSome_none, xis0, xis1, xis2, xis3, xis4, e_ks, lk_k, lk_c, List.lookup_nil, gt_c, vi_i, k1_n, k1_c, k2_n, k2_c, ar_n, ar_c, pk_n, pk_c, rm_0, rm_1, rm_2, rm_3, rm_4, rm_5, rc_9, rcs, fvs, rf_s, rf_n, isI_i, isL_l, isR_r, isR_n, isR_q, ct_i, ct_l, ct_r, ct_n, ct_q, tFs, tCs, tKs, tJs, tSs, e_nf, lgs, ↓reduceIte, true_and, and_true, false_and, and_false, or_true, true_or, false_or, or_false, Nat.reduceAdd, Nat.reduceEqDiff, Nat.reduceDiv, Nat.reduceLT, Nat.reduceLeDiff, Nat.zero_add, reduceCtorEq, Bool.false_eq_true, Option.toList_some, Option.toList_none, List.cons_append, List.nil_append, not_true_eq_false, not_false_eq_true, Nat.sub_zero, dsX1_gatherAll, jsX1_gatherAll, xcX1_gatherAll, s0, sR, sc, g0, e1, fb, b0, ht, i10, nI_1, ↓sp_X4_blockAt, ↓sp_X0_isTorn]
        exact ih2 M' (by omega) hg' hF'
      · have ht : ¬ 0 < mI M' 2 b := fun z => c (hB.torn.mp z)
        rw [if_neg c, List.filter_append, List.foldl_append] at ih2
        have hz : x.2 = zf := hB.z (by
          unfold tornB at c
          simpa using c)
        rw [hz] at hB
        have hb := gms_le (lt := lt) ((mpts (unt (bk.take i))).filter (wn 0 2147483647)) ([], lbl 0 lt) hle
        have hm : (mpts (unt (bk.take (i + 1)))).length ≤ 300 := Nat.le_trans (unt_le _) (Nat.le_trans (mpts_take bk (i + 1)) h300)
        rw [take_1 hx, unt_snoc, if_neg c, List.length_append] at hm
        have hb2 : ((mpts (unt (bk.take i))).filter (wn 0 2147483647)).length ≤ (mpts (unt (bk.take i))).length := List.length_filter_le _ _
        have hb3 : (((mpts (unt (bk.take i))).filter (wn 0 2147483647)).foldl (gm lt) ([], lbl 0 lt)).1.length + (lt.length - (((mpts (unt (bk.take i))).filter (wn 0 2147483647)).foldl (gm lt) ([], lbl 0 lt)).2) ≤ 0 + (lt.length - lbl 0 lt) + ((mpts (unt (bk.take i))).filter (wn 0 2147483647)).length := hb.2
        refine e_g2 hG [(41, [0, 1, 2])] 40 ?_
        simp only [e_wp_s, Option.getD_some, Option.isSome_some, Option.isSome_none, xis0, xis1, xis2, xis3, xis4, e_ks, lk_k, lk_c, List.lookup_nil, gt_c, vi_i, k1_n, k1_c, k2_n, k2_c, ar_n, ar_c, pk_n, pk_c, rm_0, rm_1, rm_2, rm_3, rm_4, rm_5, rc_9, rcs, fvs, rf_s, rf_n, isI_i, isL_l, isR_r, isR_n, isR_q, ct_i, ct_l, ct_r, ct_n, ct_q, tFs, tCs, tKs, tJs, tSs, e_nf, lgs, ↓reduceIte, true_and, and_true, false_and, and_false, or_true, true_or, false_or, or_false, Nat.reduceAdd, Nat.reduceEqDiff, Nat.reduceDiv, Nat.reduceLT, Nat.reduceLeDiff, Nat.zero_add, reduceCtorEq, Bool.false_eq_true, Option.toList_some, Option.toList_none, List.cons_append, List.nil_append, not_true_eq_false, not_false_eq_true, Nat.sub_zero, dsX1_gatherAll, jsX1_gatherAll, xcX1_gatherAll, s0, sR, sc, g0, e1, fb, b0, ht, i10, ↓sp_X4_blockAt, ↓sp_X0_isTorn]
        refine ⟨O, r, _, _, _, _, kd, lab, sp, bk, lt, x.1, hg', hS', hrs, hb.1, hB, by omega, fun M2 hg2 hF2 => ?_⟩
        refine e_g2 hG [(10, [0, 1, 2])] 40 ?_
        simp only [e_wp_s, Option.getD_some, Option.isSome_some, Option.isSome_none, xis0, xis1, xis2, xis3, xis4, e_ks, lk_k, lk_c, List.lookup_nil, gt_c, vi_i, k1_n, k1_c, k2_n, k2_c, ar_n, ar_c, pk_n, pk_c, rm_0, rm_1, rm_2, rm_3, rm_4, rm_5, rc_9, rcs, fvs, rf_s, rf_n, isI_i, isL_l, isR_r, isR_n, isR_q, ct_i, ct_l, ct_r, ct_n, ct_q, tFs, tCs, tKs, tJs, tSs, e_nf, lgs, ↓reduceIte, true_and, and_true, false_and, and_false, or_true, true_or, false_or, or_false, Nat.reduceAdd, Nat.reduceEqDiff, Nat.reduceDiv, Nat.reduceLT, Nat.reduceLeDiff, Nat.zero_add, reduceCtorEq, Bool.false_eq_true, Option.toList_some, Option.toList_none, List.cons_append, List.nil_append, not_true_eq_false, not_false_eq_true, Nat.sub_zero, dsX1_gatherAll, jsX1_gatherAll, xcX1_gatherAll, nI_1]
        exact ih2 M2 (by omega) hg2 (hF'.tr hF2)
  have g0 := hg.1.1
  obtain ⟨z1, z2⟩ := hg.bg 0 2147483647 (lbl 0 lt)
  refine e_g2 hG [(8, [0, 1])] 40 ?_
  simp only [e_wp_s, Option.getD_some, Option.isSome_some, Option.isSome_none, xis0, xis1, xis2, xis3, xis4, e_ks, lk_k, lk_c, List.lookup_nil, gt_c, vi_i, k1_n, k1_c, k2_n, k2_c, ar_n, ar_c, pk_n, pk_c, rm_0, rm_1, rm_2, rm_3, rm_4, rm_5, rc_9, rcs, fvs, rf_s, rf_n, isI_i, isL_l, isR_r, isR_n, isR_q, ct_i, ct_l, ct_r, ct_n, ct_q, tFs, tCs, tKs, tJs, tSs, e_nf, lgs, ↓reduceIte, true_and, and_true, false_and, and_false, or_true, true_or, false_or, or_false, Nat.reduceAdd, Nat.reduceEqDiff, Nat.reduceDiv, Nat.reduceLT, Nat.reduceLeDiff, Nat.zero_add, reduceCtorEq, Bool.false_eq_true, Option.toList_some, Option.toList_none, List.cons_append, List.nil_append, not_true_eq_false, not_false_eq_true, Nat.sub_zero, dsX1_gatherAll, jsX1_gatherAll, xcX1_gatherAll, g0]
  refine ⟨lt.length, g0, hS.1.1, hS.2.2.2.2.1, h40, ?_⟩
  rw [hS.lt]
  refine e_g2 hG [(10, [0, 1, 2])] 40 ?_
  simp only [e_wp_s, Option.getD_some, Option.isSome_some, Option.isSome_none, xis0, xis1, xis2, xis3, xis4, e_ks, lk_k, lk_c, List.lookup_nil, gt_c, vi_i, k1_n, k1_c, k2_n, k2_c, ar_n, ar_c, pk_n, pk_c, rm_0, rm_1, rm_2, rm_3, rm_4, rm_5, rc_9, rcs, fvs, rf_s, rf_n, isI_i, isL_l, isR_r, isR_n, isR_q, ct_i, ct_l, ct_r, ct_n, ct_q, tFs, tCs, tKs, tJs, tSs, e_nf, lgs, ↓reduceIte, true_and, and_true, false_and, and_false, or_true, true_or, false_or, or_false, Nat.reduceAdd, Nat.reduceEqDiff, Nat.reduceDiv, Nat.reduceLT, Nat.reduceLeDiff, Nat.zero_add, reduceCtorEq, Bool.false_eq_true, Option.toList_some, Option.toList_none, List.cons_append, List.nil_append, not_true_eq_false, not_false_eq_true, Nat.sub_zero, dsX1_gatherAll, jsX1_gatherAll, xcX1_gatherAll]
  exact loop bk.length 0 _ (by omega) z1 z2
def csX1_readTo : CS := (cs_c 0 45 2 3 sp_X3_open (cs_c 0 52 1 3 sp_X3_next cs_0))
theorem csoX1_readTo : ∀ op x na cl sp, csX1_readTo op x = some (na, cl, sp) → CallOK 1 3 68 op x na cl sp := (cs_c_ok (caX1_readTo_45 okX3_open) (cs_c_ok (caX1_readTo_52 okX3_next) cs_0_ok))
theorem xcX1_readTo : (∀ (Q : QT) (G : GT) (pc : Nat) (L : LV) (a0 a1 : Value) (r : List Value) (M : HM) (k n : Nat), ex_i 1 4 3 false csX1_readTo Q G (.invokevirtual 45) pc L (a1 :: a0 :: r) M k n = (e_rm r ∧ e_rc M 3 [a0, a1] ∧ sp_X3_open [a0, a1] M k n (fun v M' k' n' => G (pc + 3) L (v.toList ++ r) M' k' n'))) ∧ (∀ (Q : QT) (G : GT) (pc : Nat) (L : LV) (a0 : Value) (r : List Value) (M : HM) (k n : Nat), ex_i 1 4 3 false csX1_readTo Q G (.invokevirtual 52) pc L (a0 :: r) M k n = (e_rm r ∧ e_rc M 3 [a0] ∧ sp_X3_next [a0] M k n (fun v M' k' n' => G (pc + 3) L (v.toList ++ r) M' k' n'))) := ⟨(fun _ _ _ _ _ _ _ _ _ _ => xv0_2 rfl), (fun _ _ _ _ _ _ _ _ _ => xv0_1 rfl)⟩
def sp_X1_readTo : SP := fun as M k n Q => match as with
  | [.ref g, .ref b, .int i] => ∃ O r s l m, GW O M r g ∧ BRep O M s b l zf ∧ r ≠ s ∧ i = nI m ∧ m < l.length ∧ ∀ M', GW O M' r g → RdAt M' (grd M g) (l.take (m + 1)) → mI M' 103 (grd M g) = nI (eB (enc (l.take (m + 1)))).length - nI (eB (enc (l.take m))).length → mK M' (grd M g) = 4 → Fr (Ss r) O O M M' → Q (some (.ref (grd M g))) M' k n
  | _ => False
theorem okX1_readTo : OkX1_readTo sp_X1_readTo := by
  refine inX1_readTo csoX1_readTo ?_
  intro as M k n Q hsp
  unfold sp_X1_readTo at hsp
  split at hsp
  rotate_left
  · exact hsp.elim
  rename_i g b i
  obtain ⟨O, r, s, l, m, hg, hB, hrs, rfl, hm, hq⟩ := hsp
  have h16 := hB.2.2.2.2.2.2.2.2.1.2
  have hsr : ∀ a o, o.1 = s → ¬ Ss r a o := fun a o ho e => hrs (e.symm.trans ho)
  have g0 := hg.1.1
  have gk : mK M (grd M g) = 4 := hg.1.2.2.2.2
  have n1 : g ≠ grd M g := fun e => by rw [← e, g0] at gk; cases gk
  have n2 : gta M g ≠ grd M g := fun e => by have := hg.1.2.1.2.1; rw [e, gk] at this; cases this
  have n3 : gva M g ≠ grd M g := fun e => by have := hg.1.2.2.1.2.1; rw [e, gk] at this; cases this
  have toR : ∀ M', Fr (S1 (grd M g)) O O M M' → Fr (Ss r) O O M M' := fun M' h => h.sub (fun a _ e => by
    show (O a).1 = r
    rw [show a = grd M g from e]; exact hg.2.2.2.2)
  refine ⟨0, 0, Nat.zero_le _, Nat.zero_le _, Nat.le_of_ble_eq_true rfl, fun G hG => ?_⟩
  have loop : ∀ d i M', i + d = m + 1 → Fr (S1 (grd M g)) O O M M' → RdAt M' (grd M g) (l.take i) → rt M' (grd M g) = bt M b → (0 < i → mI M' 103 (grd M g) = nI (eB (enc (l.take i))).length - nI (eB (enc (l.take (i - 1)))).length) → G 10 [(0, .ref g), (1, .ref b), (2, .int (nI m)), (3, .int (nI i))] [] M' 0 0 := by
    intro d
    induction d with
    | zero =>
      intro i M' hi hF' hR hrt h103
      obtain ⟨hg', q1, q2, q3⟩ := hg.frm hF' n1 n2 n3
      have k0 := hg'.1.1
      have kr : mR M' 38 g = some (grd M g) := by rw [← q3]; exact hg'.1.2.2.2.1
      have kk : mK M' (grd M g) = 4 := by rw [← q3]; exact hg'.1.2.2.2.2
      have e1 : nI m < nI i := nI_lt (by omega) (by omega)
      have e2 : ¬ nI i < nI m := nI_nlt (by omega) (by omega)
      have ei : i = m + 1 := by omega
      subst ei
      refine e_g2 hG [] 40 ?_
      simp only [e_wp_s, Option.getD_some, Option.isSome_some, Option.isSome_none, xis0, xis1, xis2, xis3, xis4, e_ks, lk_k, lk_c, List.lookup_nil, gt_c, vi_i, k1_n, k1_c, k2_n, k2_c, ar_n, ar_c, pk_n, pk_c, rm_0, rm_1, rm_2, rm_3, rm_4, rm_5, rc_9, rcs, fvs, rf_s, rf_n, isI_i, isL_l, isR_r, isR_n, isR_q, ct_i, ct_l, ct_r, ct_n, ct_q, tFs, tCs, tKs, tJs, tSs, e_nf, lgs, ↓reduceIte, true_and, and_true, false_and, and_false, or_true, true_or, false_or, or_false, Nat.reduceAdd, Nat.reduceEqDiff, Nat.reduceDiv, Nat.reduceLT, Nat.reduceLeDiff, Nat.zero_add, reduceCtorEq, Bool.false_eq_true, Option.toList_some, Option.toList_none, List.cons_append, List.nil_append, not_true_eq_false, not_false_eq_true, Nat.sub_zero, dsX1_readTo, jsX1_readTo, xcX1_readTo, k0, kr, e1, e2]
      exact hq M' hg' hR (h103 (by omega)) kk (toR M' hF')
    | succ d ih =>
      intro i M' hi hF' hR hrt h103
      obtain ⟨hg', q1, q2, q3⟩ := hg.frm hF' n1 n2 n3
      have k0 := hg'.1.1
      have kr : mR M' 38 g = some (grd M g) := by rw [← q3]; exact hg'.1.2.2.2.1
      have kk : mK M' (grd M g) = 4 := by rw [← q3]; exact hg'.1.2.2.2.2
      have hB' := hB.frm (toR M' hF') (hsr _ _ rfl) (fun a => hsr _ _ rfl)
      have b0 := hB'.K
      have b4 : mI M' 4 b = nI l.length := hB'.2.2.2.2.2.2.2.2.1.1
      have e1 : ¬ nI m < nI i := nI_nlt (by omega) (by omega)
      have e2 : nI i < nI l.length := nI_lt (by omega) (by omega)
      obtain ⟨p, hx⟩ : ∃ p, l[i]? = some p := ⟨_, List.getElem?_eq_getElem (by omega)⟩
      have htk := take_1 hx
      have hbt : bt M' b = bt M b := by
        have hs := (hF' b (by rw [hB.K]; decide)).2.2 (fun e => by
          have e : b = grd M g := e
          rw [← e, hB.K] at gk; cases gk)
        unfold bt; rw [hs.2.2.2.2.1]
      refine e_g2 hG [(30, [0, 1, 2, 3])] 40 ?_
      simp only [e_wp_s, Option.getD_some, Option.isSome_some, Option.isSome_none, xis0, xis1, xis2, xis3, xis4, e_ks, lk_k, lk_c, List.lookup_nil, gt_c, vi_i, k1_n, k1_c, k2_n, k2_c, ar_n, ar_c, pk_n, pk_c, rm_0, rm_1, rm_2, rm_3, rm_4, rm_5, rc_9, rcs, fvs, rf_s, rf_n, isI_i, isL_l, isR_r, isR_n, isR_q, ct_i, ct_l, ct_r, ct_n, ct_q, tFs, tCs, tKs, tJs, tSs, e_nf, lgs, ↓reduceIte, true_and, and_true, false_and, and_false, or_true, true_or, false_or, or_false, Nat.reduceAdd, Nat.reduceEqDiff, Nat.reduceDiv, Nat.reduceLT, Nat.reduceLeDiff, Nat.zero_add, reduceCtorEq, Bool.false_eq_true, Option.toList_some, Option.toList_none, List.cons_append, List.nil_append, not_true_eq_false, not_false_eq_true, Nat.sub_zero, dsX1_readTo, jsX1_readTo, xcX1_readTo, k0, kr, kk, b0, b4, e1, e2]
      refine nxA hR (p := p) ?_ (by rw [List.length_take]; omega) (fun M2 hR2 h103' hsm hK2 hR2' => ?_)
      · rw [hrt, ← hbt, ← htk]
        exact hB'.reads (List.take_append_drop (i + 1) l).symm
      · refine e_g2 hG [(10, [0, 1, 2, 3])] 40 ?_
        simp only [e_wp_s, Option.getD_some, Option.isSome_some, Option.isSome_none, xis0, xis1, xis2, xis3, xis4, e_ks, lk_k, lk_c, List.lookup_nil, gt_c, vi_i, k1_n, k1_c, k2_n, k2_c, ar_n, ar_c, pk_n, pk_c, rm_0, rm_1, rm_2, rm_3, rm_4, rm_5, rc_9, rcs, fvs, rf_s, rf_n, isI_i, isL_l, isR_r, isR_n, isR_q, ct_i, ct_l, ct_r, ct_n, ct_q, tFs, tCs, tKs, tJs, tSs, e_nf, lgs, ↓reduceIte, true_and, and_true, false_and, and_false, or_true, true_or, false_or, or_false, Nat.reduceAdd, Nat.reduceEqDiff, Nat.reduceDiv, Nat.reduceLT, Nat.reduceLeDiff, Nat.zero_add, reduceCtorEq, Bool.false_eq_true, Option.toList_some, Option.toList_none, List.cons_append, List.nil_append, not_true_eq_false, not_false_eq_true, Nat.sub_zero, dsX1_readTo, jsX1_readTo, xcX1_readTo, nI_1]
        refine ih (i + 1) M2 (by omega) (hF'.tr (fr_K hK2 hsm)) (by rw [htk]; exact hR2) ?_ (fun _ => ?_)
        · rw [← hrt]; unfold rt; rw [hR2']
        · rw [htk]; exact h103'
  have gr : mR M 38 g = some (grd M g) := hg.1.2.2.2.1
  have b0 := hB.K
  obtain ⟨y1, y2, y3, y4⟩ := opR_at hB gk
  refine e_g2 hG [(8, [0, 1, 2])] 40 ?_
  simp only [e_wp_s, Option.getD_some, Option.isSome_some, Option.isSome_none, xis0, xis1, xis2, xis3, xis4, e_ks, lk_k, lk_c, List.lookup_nil, gt_c, vi_i, k1_n, k1_c, k2_n, k2_c, ar_n, ar_c, pk_n, pk_c, rm_0, rm_1, rm_2, rm_3, rm_4, rm_5, rc_9, rcs, fvs, rf_s, rf_n, isI_i, isL_l, isR_r, isR_n, isR_q, ct_i, ct_l, ct_r, ct_n, ct_q, tFs, tCs, tKs, tJs, tSs, e_nf, lgs, ↓reduceIte, true_and, and_true, false_and, and_false, or_true, true_or, false_or, or_false, Nat.reduceAdd, Nat.reduceEqDiff, Nat.reduceDiv, Nat.reduceLT, Nat.reduceLeDiff, Nat.zero_add, reduceCtorEq, Bool.false_eq_true, Option.toList_some, Option.toList_none, List.cons_append, List.nil_append, not_true_eq_false, not_false_eq_true, Nat.sub_zero, dsX1_readTo, jsX1_readTo, xcX1_readTo, g0, gr, gk, b0]
  refine ⟨gk, b0, hB.1.2.1, ?_⟩
  refine e_g2 hG [(10, [0, 1, 2, 3])] 40 ?_
  simp only [e_wp_s, Option.getD_some, Option.isSome_some, Option.isSome_none, xis0, xis1, xis2, xis3, xis4, e_ks, lk_k, lk_c, List.lookup_nil, gt_c, vi_i, k1_n, k1_c, k2_n, k2_c, ar_n, ar_c, pk_n, pk_c, rm_0, rm_1, rm_2, rm_3, rm_4, rm_5, rc_9, rcs, fvs, rf_s, rf_n, isI_i, isL_l, isR_r, isR_n, isR_q, ct_i, ct_l, ct_r, ct_n, ct_q, tFs, tCs, tKs, tJs, tSs, e_nf, lgs, ↓reduceIte, true_and, and_true, false_and, and_false, or_true, true_or, false_or, or_false, Nat.reduceAdd, Nat.reduceEqDiff, Nat.reduceDiv, Nat.reduceLT, Nat.reduceLeDiff, Nat.zero_add, reduceCtorEq, Bool.false_eq_true, Option.toList_some, Option.toList_none, List.cons_append, List.nil_append, not_true_eq_false, not_false_eq_true, Nat.sub_zero, dsX1_readTo, jsX1_readTo, xcX1_readTo]
  exact loop (m + 1) 0 _ (by omega) (fr_K y4 y3) (by rw [List.take_zero]; exact y1) y2 (fun h => absurd h (Nat.lt_irrefl _))
