/-! the river: group; a new river -/
theorem hd_len : ∀ (l : List BLK) (v : QV), (qfold hdQ v l).1 = v.1 + (mpts l).length
  | [], v => rfl
  | x :: l, v => by
    show (qfold hdQ (qadd v (hdQ x)) l).1 = _
    rw [hd_len l]
    have e : mpts (x :: l) = x.1 ++ mpts l := by unfold mpts; simp
    rw [e, List.length_append]
    show v.1 + x.1.length + _ = _
    omega
theorem gth_len (lt : List PT) (x y : Int32) (pts : List PT) : (gth lt x y pts).length ≤ pts.length + lt.length := by
  have hle := lbl_le x lt
  have h1 := gms_le (lt := lt) (pts.filter (wn x y)) ([], lbl x lt) hle
  have h2 := tlb_le y h1.1
  have h3 : (pts.filter (wn x y)).length ≤ pts.length := List.length_filter_le _ _
  have h4 : ((pts.filter (wn x y)).foldl (gm lt) ([], lbl x lt)).1.length + (lt.length - ((pts.filter (wn x y)).foldl (gm lt) ([], lbl x lt)).2) ≤ 0 + (lt.length - lbl x lt) + (pts.filter (wn x y)).length := h1.2
  unfold gth
  omega
theorem askC_le {S : SER} (h1 : szOK 400 S.2.2.1) (h2 : S.2.2.1.length ≤ 60) (h3 : (mpts S.2.2.2.1).length ≤ 300) (h4 : S.2.2.2.2.length ≤ 40) (a b : Int32) (u : QV) : (askC S a b u).1 ≤ u.1 + 24700 := by
  unfold askC
  have a1 := qfold_le (spQ a b) 400 S.2.2.1 u (fun y hy => by
    obtain ⟨m', w1, w2, w3⟩ := h1 y hy
    unfold spQ
    split
    · show szN y ≤ 400
      unfold szN; rw [w1, nI_clamp (by omega)]; exact w3
    · exact Nat.zero_le _)
  have a2 := hd_len (S.2.2.2.1.filter (told a b S.2.2.2.2)) (qfold (spQ a b) u S.2.2.1)
  have a3 := mf_le (told a b S.2.2.2.2) S.2.2.2.1
  have a4 := qfold_le ptQ 1 (gth S.2.2.2.2 a b (mpts (S.2.2.2.1.filter (unp a b S.2.2.2.2)))) (qfold hdQ (qfold (spQ a b) u S.2.2.1) (S.2.2.2.1.filter (told a b S.2.2.2.2))) (fun _ _ => Nat.le_refl _)
  have a5 := gth_len S.2.2.2.2 a b (mpts (S.2.2.2.1.filter (unp a b S.2.2.2.2)))
  have a6 := mf_le (unp a b S.2.2.2.2) S.2.2.2.1
  omega
def zad (z w : Nat × Nat × Nat) : Nat × Nat × Nat := (z.1 + w.1, z.2.1 + w.2.1, z.2.2 + w.2.2)
def grU (key v a b : Int32) (u : QV) (S : SER) : QV := if bear S key v then askC S a b u else u
def grZ (key v a b : Int32) (z : Nat × Nat × Nat) (S : SER) : Nat × Nat × Nat := if bear S key v then zad z (lookS S a b) else z
def aGroup (L : List SER) (z : Nat × Nat × Nat) (key v a b w : Int32) : Int64 × Nat × Nat × Nat := if (¬ key < 0 ∧ key < 8) ∧ (¬ v < 0 ∧ v < 16) ∧ (¬ w < 0 ∧ ¬ 1 < w) ∧ ¬ a < 0 ∧ a < b then ((if w = 0 then (nI (L.foldl (grU key v a b) q0).1).toInt64 else (L.foldl (grU key v a b) q0).2.1), L.foldl (grZ key v a b) (0, 0, 0)) else (NOv, z)
def csX6_group : CS := (cs_c 2 42 1 9 sp_X6_isKey (cs_c 2 46 1 9 sp_X6_isLabel (cs_c 2 214 2 9 sp_X6_isWindow (cs_c 0 217 3 2 sp_X2_begin (cs_c 0 38 2 6 sp_X6_seriesAt (cs_c 0 57 3 4 sp_X4_bears (cs_c 0 219 3 2 sp_X2_lookByHeads cs_0)))))))
theorem csoX6_group : ∀ op x na cl sp, csX6_group op x = some (na, cl, sp) → CallOK 6 6 136 op x na cl sp := (cs_c_ok (caX6_group_42 okX6_isKey) (cs_c_ok (caX6_group_46 okX6_isLabel) (cs_c_ok (caX6_group_214 okX6_isWindow) (cs_c_ok (caX6_group_217 okX2_begin) (cs_c_ok (caX6_group_38 okX6_seriesAt) (cs_c_ok (caX6_group_57 okX4_bears) (cs_c_ok (caX6_group_219 okX2_lookByHeads) cs_0_ok)))))))
theorem xcX6_group : (∀ (Q : QT) (G : GT) (pc : Nat) (L : LV) (a0 : Value) (r : List Value) (M : HM) (k n : Nat), ex_i 6 8 2 false csX6_group Q G (.invokestatic 42) pc L (a0 :: r) M k n = (e_rm r ∧ e_rc M 9 [a0] ∧ sp_X6_isKey [a0] M k n (fun v M' k' n' => G (pc + 3) L (v.toList ++ r) M' k' n'))) ∧ (∀ (Q : QT) (G : GT) (pc : Nat) (L : LV) (a0 : Value) (r : List Value) (M : HM) (k n : Nat), ex_i 6 8 2 false csX6_group Q G (.invokestatic 46) pc L (a0 :: r) M k n = (e_rm r ∧ e_rc M 9 [a0] ∧ sp_X6_isLabel [a0] M k n (fun v M' k' n' => G (pc + 3) L (v.toList ++ r) M' k' n'))) ∧ (∀ (Q : QT) (G : GT) (pc : Nat) (L : LV) (a0 a1 : Value) (r : List Value) (M : HM) (k n : Nat), ex_i 6 8 2 false csX6_group Q G (.invokestatic 214) pc L (a1 :: a0 :: r) M k n = (e_rm r ∧ e_rc M 9 [a0, a1] ∧ sp_X6_isWindow [a0, a1] M k n (fun v M' k' n' => G (pc + 3) L (v.toList ++ r) M' k' n'))) ∧ (∀ (Q : QT) (G : GT) (pc : Nat) (L : LV) (a0 a1 a2 : Value) (r : List Value) (M : HM) (k n : Nat), ex_i 6 8 2 false csX6_group Q G (.invokevirtual 217) pc L (a2 :: a1 :: a0 :: r) M k n = (e_rm r ∧ e_rc M 2 [a0, a1, a2] ∧ sp_X2_begin [a0, a1, a2] M k n (fun v M' k' n' => G (pc + 3) L (v.toList ++ r) M' k' n'))) ∧ (∀ (Q : QT) (G : GT) (pc : Nat) (L : LV) (a0 a1 : Value) (r : List Value) (M : HM) (k n : Nat), ex_i 6 8 2 false csX6_group Q G (.invokevirtual 38) pc L (a1 :: a0 :: r) M k n = (e_rm r ∧ e_rc M 6 [a0, a1] ∧ sp_X6_seriesAt [a0, a1] M k n (fun v M' k' n' => G (pc + 3) L (v.toList ++ r) M' k' n'))) ∧ (∀ (Q : QT) (G : GT) (pc : Nat) (L : LV) (a0 a1 a2 : Value) (r : List Value) (M : HM) (k n : Nat), ex_i 6 8 2 false csX6_group Q G (.invokevirtual 57) pc L (a2 :: a1 :: a0 :: r) M k n = (e_rm r ∧ e_rc M 4 [a0, a1, a2] ∧ sp_X4_bears [a0, a1, a2] M k n (fun v M' k' n' => G (pc + 3) L (v.toList ++ r) M' k' n'))) ∧ (∀ (Q : QT) (G : GT) (pc : Nat) (L : LV) (a0 a1 a2 : Value) (r : List Value) (M : HM) (k n : Nat), ex_i 6 8 2 false csX6_group Q G (.invokevirtual 219) pc L (a2 :: a1 :: a0 :: r) M k n = (e_rm r ∧ e_rc M 2 [a0, a1, a2] ∧ sp_X2_lookByHeads [a0, a1, a2] M k n (fun v M' k' n' => G (pc + 3) L (v.toList ++ r) M' k' n'))) := ⟨(fun _ _ _ _ _ _ _ _ _ => xv2_1 rfl), (fun _ _ _ _ _ _ _ _ _ => xv2_1 rfl), (fun _ _ _ _ _ _ _ _ _ _ => xv2_2 rfl), (fun _ _ _ _ _ _ _ _ _ _ _ => xv0_3 rfl), (fun _ _ _ _ _ _ _ _ _ _ => xv0_2 rfl), (fun _ _ _ _ _ _ _ _ _ _ _ => xv0_3 rfl), (fun _ _ _ _ _ _ _ _ _ _ _ => xv0_3 rfl)⟩
def sp_X6_group : SP := fun as M k n Q => match as with
  | [.ref x, .int key, .int v, .int a, .int b, .int w] => ∃ O L z m, NRep O M x L z.1 z.2.1 z.2.2 ∧ mK M m = 8 ∧ wf1 L ∧ ∀ O' M', NRep O' M' x L (aGroup L z key v a b w).2.1 (aGroup L z key v a b w).2.2.1 (aGroup L z key v a b w).2.2.2 → Fr (SN m) O O' M M' → Q (some (.long (aGroup L z key v a b w).1)) M' k n
  | _ => False
theorem okX6_group : OkX6_group sp_X6_group := by
  refine inX6_group csoX6_group ?_
  intro as M k n Q hsp
  unfold sp_X6_group at hsp
  split at hsp
  rotate_left
  · exact hsp.elim
  rename_i x key v a b w
  obtain ⟨O, L, z, m, hN, hm, hwf, hq⟩ := hsp
  have k0 := hN.1.1.1
  have qr := hN.1.1.2.2.2
  obtain ⟨z1, z2, z3, z4⟩ := hN.ks
  have h8 := hN.2.1.2
  refine ⟨0, 0, Nat.zero_le _, Nat.zero_le _, Nat.le_of_ble_eq_true rfl, fun G hG => ?_⟩
  unfold aGroup at hq
  by_cases c1 : ¬ key < 0 ∧ key < 8
  · by_cases c2 : ¬ v < 0 ∧ v < 16
    · by_cases c3 : w < 0
      · rw [if_neg (fun q => q.2.2.1.1 c3)] at hq
        refine e_g2 hG [] 60 ?_
        simp only [e_wp_s, Option.getD_some, Option.isSome_some, Option.isSome_none, xis0, xis1, xis2, xis3, xis4, e_ks, lk_k, lk_c, List.lookup_nil, gt_c, vi_i, k1_n, k1_c, k2_n, k2_c, ar_n, ar_c, pk_n, pk_c, rm_0, rm_1, rm_2, rm_3, rm_4, rm_5, rc_9, rcs, fvs, rf_s, rf_n, isI_i, isL_l, isR_r, isR_n, isR_q, ct_i, ct_l, ct_r, ct_n, ct_q, tFs, tCs, tKs, tJs, tSs, e_nf, lgs, ↓reduceIte, true_and, and_true, false_and, and_false, or_true, true_or, false_or, or_false, Nat.reduceAdd, Nat.reduceEqDiff, Nat.reduceDiv, Nat.reduceLT, Nat.reduceLeDiff, Nat.zero_add, reduceCtorEq, Bool.false_eq_true, Option.toList_some, Option.toList_none, List.cons_append, List.nil_append, not_true_eq_false, not_false_eq_true, Nat.sub_zero, dsX6_group, jsX6_group, xcX6_group, c1, c2, c3, i10, ↓sp_X6_isKey, ↓sp_X6_isLabel]
        exact hq O M hN Fr.rf
      by_cases c4 : 1 < w
      · rw [if_neg (fun q => q.2.2.1.2 c4)] at hq
        refine e_g2 hG [] 60 ?_
        simp only [e_wp_s, Option.getD_some, Option.isSome_some, Option.isSome_none, xis0, xis1, xis2, xis3, xis4, e_ks, lk_k, lk_c, List.lookup_nil, gt_c, vi_i, k1_n, k1_c, k2_n, k2_c, ar_n, ar_c, pk_n, pk_c, rm_0, rm_1, rm_2, rm_3, rm_4, rm_5, rc_9, rcs, fvs, rf_s, rf_n, isI_i, isL_l, isR_r, isR_n, isR_q, ct_i, ct_l, ct_r, ct_n, ct_q, tFs, tCs, tKs, tJs, tSs, e_nf, lgs, ↓reduceIte, true_and, and_true, false_and, and_false, or_true, true_or, false_or, or_false, Nat.reduceAdd, Nat.reduceEqDiff, Nat.reduceDiv, Nat.reduceLT, Nat.reduceLeDiff, Nat.zero_add, reduceCtorEq, Bool.false_eq_true, Option.toList_some, Option.toList_none, List.cons_append, List.nil_append, not_true_eq_false, not_false_eq_true, Nat.sub_zero, dsX6_group, jsX6_group, xcX6_group, c1, c2, c3, c4, i10, ↓sp_X6_isKey, ↓sp_X6_isLabel]
        exact hq O M hN Fr.rf
      by_cases c5 : ¬ a < 0 ∧ a < b
      · rw [if_pos ⟨c1, c2, ⟨c3, c4⟩, c5⟩] at hq
        obtain ⟨n1, n2, n3, n4, n5, n6, n7⟩ := hN.beg a b
        have hF0 := fr_SN n3 hm (by rw [z3]; decide)
        have loop : ∀ d j O' M' u z', j + d = L.length → NRep O' M' x L z'.1 z'.2.1 z'.2.2 → QR M' (qA M x) a b u z'.1 z'.2.1 z'.2.2 → Fr (SN m) O O' M M' → gA M' x = gA M x ∧ qA M' x = qA M x ∧ (∀ i, sA M' x i = sA M x i) → (L.drop j).foldl (grU key v a b) u = L.foldl (grU key v a b) q0 → (L.drop j).foldl (grZ key v a b) z' = L.foldl (grZ key v a b) (0, 0, 0) → u.1 ≤ 25000 * j → G 51 [(0, .ref x), (1, .int key), (2, .int v), (3, .int a), (4, .int b), (5, .int w), (6, .int (nI j))] [] M' 0 0 := by
          intro d
          induction d with
          | zero =>
            intro j O' M' u z' hj hN' hQ' hF' he hu hz hb
            rw [List.drop_eq_nil_of_le (by omega)] at hu hz
            have hu : u = L.foldl (grU key v a b) q0 := hu
            have hz : z' = L.foldl (grZ key v a b) (0, 0, 0) := hz
            have e1 : ¬ nI j < nI L.length := nI_nlt (by omega) (by omega)
            have x1 := hN'.1.1.1
            have xc := hN'.2.1.1
            have qr1 : mR M' 195 x = some (qA M x) := by rw [← he.2.1]; exact hN'.1.1.2.2.2
            obtain ⟨q3, -, -, q66, q67, -⟩ := id hQ'
            rw [← hu, ← hz] at hq
            have hq := hq O' M' hN' hF'
            by_cases c6 : w = 0
            · rw [if_pos c6] at hq
              refine e_g2 hG [] 60 ?_
              simp only [e_wp_s, Option.getD_some, Option.isSome_some, Option.isSome_none, xis0, xis1, xis2, xis3, xis4, e_ks, lk_k, lk_c, List.lookup_nil, gt_c, vi_i, k1_n, k1_c, k2_n, k2_c, ar_n, ar_c, pk_n, pk_c, rm_0, rm_1, rm_2, rm_3, rm_4, rm_5, rc_9, rcs, fvs, rf_s, rf_n, isI_i, isL_l, isR_r, isR_n, isR_q, ct_i, ct_l, ct_r, ct_n, ct_q, tFs, tCs, tKs, tJs, tSs, e_nf, lgs, ↓reduceIte, true_and, and_true, false_and, and_false, or_true, true_or, false_or, or_false, Nat.reduceAdd, Nat.reduceEqDiff, Nat.reduceDiv, Nat.reduceLT, Nat.reduceLeDiff, Nat.zero_add, reduceCtorEq, Bool.false_eq_true, Option.toList_some, Option.toList_none, List.cons_append, List.nil_append, not_true_eq_false, not_false_eq_true, Nat.sub_zero, dsX6_group, jsX6_group, xcX6_group, x1, xc, e1, qr1, q3, q66, q67, c6]
              exact hq
            · rw [if_neg c6] at hq
              refine e_g2 hG [] 60 ?_
              simp only [e_wp_s, Option.getD_some, Option.isSome_some, Option.isSome_none, xis0, xis1, xis2, xis3, xis4, e_ks, lk_k, lk_c, List.lookup_nil, gt_c, vi_i, k1_n, k1_c, k2_n, k2_c, ar_n, ar_c, pk_n, pk_c, rm_0, rm_1, rm_2, rm_3, rm_4, rm_5, rc_9, rcs, fvs, rf_s, rf_n, isI_i, isL_l, isR_r, isR_n, isR_q, ct_i, ct_l, ct_r, ct_n, ct_q, tFs, tCs, tKs, tJs, tSs, e_nf, lgs, ↓reduceIte, true_and, and_true, false_and, and_false, or_true, true_or, false_or, or_false, Nat.reduceAdd, Nat.reduceEqDiff, Nat.reduceDiv, Nat.reduceLT, Nat.reduceLeDiff, Nat.zero_add, reduceCtorEq, Bool.false_eq_true, Option.toList_some, Option.toList_none, List.cons_append, List.nil_append, not_true_eq_false, not_false_eq_true, Nat.sub_zero, dsX6_group, jsX6_group, xcX6_group, x1, xc, e1, qr1, q3, q66, q67, c6]
              exact hq
          | succ d ih =>
            intro j O' M' u z' hj hN' hQ' hF' he hu hz hb
            have e1 : nI j < nI L.length := nI_lt (by omega) (by omega)
            obtain ⟨S, hx⟩ : ∃ S, L[j]? = some S := ⟨_, List.getElem?_eq_getElem (by omega)⟩
            have hd : L.drop j = S :: L.drop (j + 1) := by
              have hi := (List.getElem?_eq_some_iff.mp hx).1
              rw [List.drop_eq_getElem_cons hi]
              congr 1
              exact (List.getElem?_eq_some_iff.mp hx).2
            rw [hd, List.foldl_cons] at hu hz
            have x1 := hN'.1.1.1
            have xR := hN'.1.1
            have xc := hN'.2.1.1
            have gr1 : mR M' 194 x = some (gA M x) := by rw [← he.1]; exact hN'.1.1.2.2.1
            have qr1 : mR M' 195 x = some (qA M x) := by rw [← he.2.1]; exact hN'.1.1.2.2.2
            have q3 := hQ'.1
            obtain ⟨y1, y2, y3, y4⟩ := hN'.ks
            rcases hN'.sa (nI j) with ⟨h1, h2⟩ | ⟨i', S', h1, h1', h3, h4, h5, h6⟩
            · unfold ser at h1
              rw [if_neg (nI_pos (by omega)), nI_clamp (by omega), hx] at h1
              cases h1
            · have e2 : i' = j := ((nI_eq (by omega) (by omega)).mp h1').symm
              subst e2
              have e3 : S' = S := Option.some.inj (h3.symm.trans hx)
              subst e3
              rw [he.2.2] at h4 h5
              have s0 := h5.1.1.1
              have sR := h5.1.1
              have l1 := SRep.la h5 key
              by_cases cb : (¬ v < 0 ∧ v < 16) ∧ labO S' key = v
              · have b1 : bear S' key v = true := by unfold bear; simp [cb.1.1, cb.1.2, cb.2]
                rw [grU, if_pos b1] at hu
                rw [grZ, if_pos b1] at hz
                obtain ⟨w1, w2, w3⟩ := hwf S' (List.mem_of_getElem? h3)
                have hle := askC_le w3 h5.2.2.1.2.1 w2 h5.2.2.2.2.2.1 a b u
                have hg1 := hN'.2.2.2.2.1
                rw [he.1] at hg1
                have hq1 := hN'.2.2.2.2.2.1
                rw [he.2.1] at hq1
                rw [he.1] at y2
                rw [he.2.1] at y3
                have ys := y4 i' S' h3
                rw [he.2.2] at ys
                have f1 : qA M x ≠ sA M x i' := fun e => by rw [← e, y3] at ys; cases ys
                have f2 : gA M x ≠ sA M x i' := fun e => by rw [← e, y2] at ys; cases ys
                have f3 : qA M x ≠ gA M x := fun e => by rw [e, y2] at y3; cases y3
                refine e_g2 hG [(96, [0, 1, 2, 3, 4, 5, 6])] 60 ?_
                simp only [e_wp_s, Option.getD_some, Option.isSome_some, Option.isSome_none, xis0, xis1, xis2, xis3, xis4, e_ks, lk_k, lk_c, List.lookup_nil, gt_c, vi_i, k1_n, k1_c, k2_n, k2_c, ar_n, ar_c, pk_n, pk_c, rm_0, rm_1, rm_2, rm_3, rm_4, rm_5, rc_9, rcs, fvs, rf_s, rf_n, isI_i, isL_l, isR_r, isR_n, isR_q, ct_i, ct_l, ct_r, ct_n, ct_q, tFs, tCs, tKs, tJs, tSs, e_nf, lgs, ↓reduceIte, true_and, and_true, false_and, and_false, or_true, true_or, false_or, or_false, Nat.reduceAdd, Nat.reduceEqDiff, Nat.reduceDiv, Nat.reduceLT, Nat.reduceLeDiff, Nat.zero_add, reduceCtorEq, Bool.false_eq_true, Option.toList_some, Option.toList_none, List.cons_append, List.nil_append, not_true_eq_false, not_false_eq_true, Nat.sub_zero, dsX6_group, jsX6_group, xcX6_group, x1, xR, xc, e1, h4, s0, sR, l1, cb, gr1, qr1, q3, i10, ↓sp_X6_seriesAt, ↓sp_X4_bears]
                refine ⟨O', qA M x, gA M x, a, b, u, _, _, _, _, _, _, _, _, hQ', h5, hg1, ⟨hq1, f1, f2, f3⟩, w3, w1, w2, by omega, fun M2 hQ2 hW2 hF2 => ?_⟩
                have hF2' : Fr (S2r (qA M' x) (gA M' x)) O' O' M' M2 := by rw [he.1, he.2.1]; exact hF2
                have hN2 := hN'.qst hF2' (by rw [he.1]; exact hW2) (by rw [he.2.1]; exact hQ2)
                have hb2 := hN'.base hF2' (fun c o ho e => e.elim (fun e => by
                  have : x = qA M' x := ho.symm.trans e
                  rw [he.2.1] at this
                  rw [← this, y1] at y3; cases y3) (fun e => by
                  have : x = gA M' x := ho.symm.trans e
                  rw [he.1] at this
                  rw [← this, y1] at y2; cases y2))
                have hFin := hF'.tr (fr2_SN hF2 (SN.k hF' hm) (by rw [q3]; decide) (by rw [y2]; decide))
                refine e_g2 hG [(51, [0, 1, 2, 3, 4, 5, 6])] 60 ?_
                simp only [e_wp_s, Option.getD_some, Option.isSome_some, Option.isSome_none, xis0, xis1, xis2, xis3, xis4, e_ks, lk_k, lk_c, List.lookup_nil, gt_c, vi_i, k1_n, k1_c, k2_n, k2_c, ar_n, ar_c, pk_n, pk_c, rm_0, rm_1, rm_2, rm_3, rm_4, rm_5, rc_9, rcs, fvs, rf_s, rf_n, isI_i, isL_l, isR_r, isR_n, isR_q, ct_i, ct_l, ct_r, ct_n, ct_q, tFs, tCs, tKs, tJs, tSs, e_nf, lgs, ↓reduceIte, true_and, and_true, false_and, and_false, or_true, true_or, false_or, or_false, Nat.reduceAdd, Nat.reduceEqDiff, Nat.reduceDiv, Nat.reduceLT, Nat.reduceLeDiff, Nat.zero_add, reduceCtorEq, Bool.false_eq_true, Option.toList_some, Option.toList_none, List.cons_append, List.nil_append, not_true_eq_false, not_false_eq_true, Nat.sub_zero, dsX6_group, jsX6_group, xcX6_group, nI_1]
                exact ih (i' + 1) O' M2 (askC S' a b u) (zad z' (lookS S' a b)) (by omega) hN2 hQ2 hFin ⟨hb2.2.2.2.1.trans he.1, hb2.2.2.2.2.1.trans he.2.1, fun i => (hb2.2.2.2.2.2.1 i).trans (he.2.2 i)⟩ hu hz (by omega)
              · have b1 : bear S' key v = false := by
                  unfold bear
                  rw [Bool.and_eq_false_iff]
                  rcases Decidable.not_and_iff_not_or_not.mp cb with q | q
                  · exact Or.inl (decide_eq_false q)
                  · exact Or.inr (decide_eq_false q)
                rw [grU, if_neg (by rw [b1]; decide)] at hu
                rw [grZ, if_neg (by rw [b1]; decide)] at hz
                refine e_g2 hG [(51, [0, 1, 2, 3, 4, 5, 6])] 60 ?_
                simp only [e_wp_s, Option.getD_some, Option.isSome_some, Option.isSome_none, xis0, xis1, xis2, xis3, xis4, e_ks, lk_k, lk_c, List.lookup_nil, gt_c, vi_i, k1_n, k1_c, k2_n, k2_c, ar_n, ar_c, pk_n, pk_c, rm_0, rm_1, rm_2, rm_3, rm_4, rm_5, rc_9, rcs, fvs, rf_s, rf_n, isI_i, isL_l, isR_r, isR_n, isR_q, ct_i, ct_l, ct_r, ct_n, ct_q, tFs, tCs, tKs, tJs, tSs, e_nf, lgs, ↓reduceIte, true_and, and_true, false_and, and_false, or_true, true_or, false_or, or_false, Nat.reduceAdd, Nat.reduceEqDiff, Nat.reduceDiv, Nat.reduceLT, Nat.reduceLeDiff, Nat.zero_add, reduceCtorEq, Bool.false_eq_true, Option.toList_some, Option.toList_none, List.cons_append, List.nil_append, not_true_eq_false, not_false_eq_true, Nat.sub_zero, dsX6_group, jsX6_group, xcX6_group, x1, xR, xc, e1, h4, s0, sR, l1, cb, i10, nI_1, ↓sp_X6_seriesAt, ↓sp_X4_bears]
                exact ih (i' + 1) O' M' u z' (by omega) hN' hQ' hF' he hu hz (by omega)
        refine e_g2 hG [(48, [0, 1, 2, 3, 4, 5])] 60 ?_
        simp only [e_wp_s, Option.getD_some, Option.isSome_some, Option.isSome_none, xis0, xis1, xis2, xis3, xis4, e_ks, lk_k, lk_c, List.lookup_nil, gt_c, vi_i, k1_n, k1_c, k2_n, k2_c, ar_n, ar_c, pk_n, pk_c, rm_0, rm_1, rm_2, rm_3, rm_4, rm_5, rc_9, rcs, fvs, rf_s, rf_n, isI_i, isL_l, isR_r, isR_n, isR_q, ct_i, ct_l, ct_r, ct_n, ct_q, tFs, tCs, tKs, tJs, tSs, e_nf, lgs, ↓reduceIte, true_and, and_true, false_and, and_false, or_true, true_or, false_or, or_false, Nat.reduceAdd, Nat.reduceEqDiff, Nat.reduceDiv, Nat.reduceLT, Nat.reduceLeDiff, Nat.zero_add, reduceCtorEq, Bool.false_eq_true, Option.toList_some, Option.toList_none, List.cons_append, List.nil_append, not_true_eq_false, not_false_eq_true, Nat.sub_zero, dsX6_group, jsX6_group, xcX6_group, k0, qr, z3, c1, c2, c3, c4, c5, i10, ↓sp_X6_isKey, ↓sp_X6_isLabel, ↓sp_X6_isWindow, ↓sp_X2_begin]
        refine e_g2 hG [(51, [0, 1, 2, 3, 4, 5, 6])] 60 ?_
        simp only [e_wp_s, Option.getD_some, Option.isSome_some, Option.isSome_none, xis0, xis1, xis2, xis3, xis4, e_ks, lk_k, lk_c, List.lookup_nil, gt_c, vi_i, k1_n, k1_c, k2_n, k2_c, ar_n, ar_c, pk_n, pk_c, rm_0, rm_1, rm_2, rm_3, rm_4, rm_5, rc_9, rcs, fvs, rf_s, rf_n, isI_i, isL_l, isR_r, isR_n, isR_q, ct_i, ct_l, ct_r, ct_n, ct_q, tFs, tCs, tKs, tJs, tSs, e_nf, lgs, ↓reduceIte, true_and, and_true, false_and, and_false, or_true, true_or, false_or, or_false, Nat.reduceAdd, Nat.reduceEqDiff, Nat.reduceDiv, Nat.reduceLT, Nat.reduceLeDiff, Nat.zero_add, reduceCtorEq, Bool.false_eq_true, Option.toList_some, Option.toList_none, List.cons_append, List.nil_append, not_true_eq_false, not_false_eq_true, Nat.sub_zero, dsX6_group, jsX6_group, xcX6_group]
        exact loop L.length 0 O _ q0 (0, 0, 0) (by omega) n1 n2 hF0 ⟨n4, n5, n7⟩ rfl rfl (Nat.zero_le _)
      · rw [if_neg (fun q => c5 q.2.2.2)] at hq
        refine e_g2 hG [] 60 ?_
        simp only [e_wp_s, Option.getD_some, Option.isSome_some, Option.isSome_none, xis0, xis1, xis2, xis3, xis4, e_ks, lk_k, lk_c, List.lookup_nil, gt_c, vi_i, k1_n, k1_c, k2_n, k2_c, ar_n, ar_c, pk_n, pk_c, rm_0, rm_1, rm_2, rm_3, rm_4, rm_5, rc_9, rcs, fvs, rf_s, rf_n, isI_i, isL_l, isR_r, isR_n, isR_q, ct_i, ct_l, ct_r, ct_n, ct_q, tFs, tCs, tKs, tJs, tSs, e_nf, lgs, ↓reduceIte, true_and, and_true, false_and, and_false, or_true, true_or, false_or, or_false, Nat.reduceAdd, Nat.reduceEqDiff, Nat.reduceDiv, Nat.reduceLT, Nat.reduceLeDiff, Nat.zero_add, reduceCtorEq, Bool.false_eq_true, Option.toList_some, Option.toList_none, List.cons_append, List.nil_append, not_true_eq_false, not_false_eq_true, Nat.sub_zero, dsX6_group, jsX6_group, xcX6_group, c1, c2, c3, c4, c5, i10, ↓sp_X6_isKey, ↓sp_X6_isLabel, ↓sp_X6_isWindow]
        exact hq O M hN Fr.rf
    · rw [if_neg (fun q => c2 q.2.1)] at hq
      refine e_g2 hG [] 60 ?_
      simp only [e_wp_s, Option.getD_some, Option.isSome_some, Option.isSome_none, xis0, xis1, xis2, xis3, xis4, e_ks, lk_k, lk_c, List.lookup_nil, gt_c, vi_i, k1_n, k1_c, k2_n, k2_c, ar_n, ar_c, pk_n, pk_c, rm_0, rm_1, rm_2, rm_3, rm_4, rm_5, rc_9, rcs, fvs, rf_s, rf_n, isI_i, isL_l, isR_r, isR_n, isR_q, ct_i, ct_l, ct_r, ct_n, ct_q, tFs, tCs, tKs, tJs, tSs, e_nf, lgs, ↓reduceIte, true_and, and_true, false_and, and_false, or_true, true_or, false_or, or_false, Nat.reduceAdd, Nat.reduceEqDiff, Nat.reduceDiv, Nat.reduceLT, Nat.reduceLeDiff, Nat.zero_add, reduceCtorEq, Bool.false_eq_true, Option.toList_some, Option.toList_none, List.cons_append, List.nil_append, not_true_eq_false, not_false_eq_true, Nat.sub_zero, dsX6_group, jsX6_group, xcX6_group, c1, c2, i10, ↓sp_X6_isKey, ↓sp_X6_isLabel]
      exact hq O M hN Fr.rf
  · rw [if_neg (fun q => c1 q.1)] at hq
    refine e_g2 hG [] 60 ?_
    simp only [e_wp_s, Option.getD_some, Option.isSome_some, Option.isSome_none, xis0, xis1, xis2, xis3, xis4, e_ks, lk_k, lk_c, List.lookup_nil, gt_c, vi_i, k1_n, k1_c, k2_n, k2_c, ar_n, ar_c, pk_n, pk_c, rm_0, rm_1, rm_2, rm_3, rm_4, rm_5, rc_9, rcs, fvs, rf_s, rf_n, isI_i, isL_l, isR_r, isR_n, isR_q, ct_i, ct_l, ct_r, ct_n, ct_q, tFs, tCs, tKs, tJs, tSs, e_nf, lgs, ↓reduceIte, true_and, and_true, false_and, and_false, or_true, true_or, false_or, or_false, Nat.reduceAdd, Nat.reduceEqDiff, Nat.reduceDiv, Nat.reduceLT, Nat.reduceLeDiff, Nat.zero_add, reduceCtorEq, Bool.false_eq_true, Option.toList_some, Option.toList_none, List.cons_append, List.nil_append, not_true_eq_false, not_false_eq_true, Nat.sub_zero, dsX6_group, jsX6_group, xcX6_group, c1, i10, ↓sp_X6_isKey]
    exact hq O M hN Fr.rf
def csX6_init : CS := (cs_c 1 3 1 9 sp_obj (cs_c 1 23 1 1 sp_X1_init (cs_c 1 30 1 2 sp_X2_init cs_0)))
theorem csoX6_init : ∀ op x na cl sp, csX6_init op x = some (na, cl, sp) → CallOK 6 3 60 op x na cl sp := (cs_c_ok caX6_init_3 (cs_c_ok (caX6_init_23 okX1_init) (cs_c_ok (caX6_init_30 okX2_init) cs_0_ok)))
theorem xcX6_init : (∀ (Q : QT) (G : GT) (pc : Nat) (L : LV) (a0 : Value) (r : List Value) (M : HM) (k n : Nat), ex_i 6 1 0 true csX6_init Q G (.invokespecial 3) pc L (a0 :: r) M k n = (e_rm r ∧ e_rc M 9 [a0] ∧ sp_obj [a0] M k n (fun v M' k' n' => G (pc + 3) L (v.toList ++ r) M' k' n'))) ∧ (∀ (Q : QT) (G : GT) (pc : Nat) (L : LV) (a0 : Value) (r : List Value) (M : HM) (k n : Nat), ex_i 6 1 0 true csX6_init Q G (.invokespecial 23) pc L (a0 :: r) M k n = (e_rm r ∧ e_rc M 1 [a0] ∧ sp_X1_init [a0] M k n (fun v M' k' n' => G (pc + 3) L (v.toList ++ r) M' k' n'))) ∧ (∀ (Q : QT) (G : GT) (pc : Nat) (L : LV) (a0 : Value) (r : List Value) (M : HM) (k n : Nat), ex_i 6 1 0 true csX6_init Q G (.invokespecial 30) pc L (a0 :: r) M k n = (e_rm r ∧ e_rc M 2 [a0] ∧ sp_X2_init [a0] M k n (fun v M' k' n' => G (pc + 3) L (v.toList ++ r) M' k' n'))) := ⟨(fun _ _ _ _ _ _ _ _ _ => xv1_1 rfl), (fun _ _ _ _ _ _ _ _ _ => xv1_1 rfl), (fun _ _ _ _ _ _ _ _ _ => xv1_1 rfl)⟩
def sp_X6_init : SP := fun as M k n Q => match as with
  | [.ref x] => ∃ O, mK M x = 7 ∧ O x = (x, x) ∧ 7 ≤ k ∧ 712 ≤ n ∧ ∀ O' M', NRep O' M' x [] 0 0 0 → Fr (fun a _ => a = x) O O' M M' → Q none M' (k - 7) (n - 712)
  | _ => False
def inN (M : HM) (x y : Nat) : HM := sI (sR (nA M 12 y 8) 192 x (some y)) 193 x 0
set_option maxRecDepth 20000 in
theorem okX6_init : OkX6_init sp_X6_init := by
  refine inX6_init csoX6_init ?_
  intro as M k n Q hsp
  unfold sp_X6_init at hsp
  split at hsp
  rotate_left
  · exact hsp.elim
  rename_i x
  obtain ⟨O, hb, ho, hk, hn, hq⟩ := hsp
  refine ⟨7, 712, hk, hn, Nat.le_of_ble_eq_true rfl, fun G hG => ?_⟩
  have z1 : ¬ (8 : Int32) < 0 := by decide
  have z2 : (8 : Int32).toNatClampNeg = 8 := rfl
  have hne : ∀ y, mK M y = 0 → ¬ x = y := fun y h e => by rw [e, h] at hb; cases hb
  have ak4 : e_ak 4 = 12 := rfl
  refine e_g2 hG [(19, [0])] 120 ?_
  simp only [e_wp_s, Option.getD_some, Option.isSome_some, Option.isSome_none, xis0, xis1, xis2, xis3, xis4, e_ks, lk_k, lk_c, List.lookup_nil, gt_c, vi_i, k1_n, k1_c, k2_n, k2_c, ar_n, ar_c, pk_n, pk_c, rm_0, rm_1, rm_2, rm_3, rm_4, rm_5, rc_9, rcs, fvs, rf_s, rf_n, isI_i, isL_l, isR_r, isR_n, isR_q, ct_i, ct_l, ct_r, ct_n, ct_q, tFs, tCs, tKs, tJs, tSs, e_nf, lgs, ↓reduceIte, true_and, and_true, false_and, and_false, or_true, true_or, false_or, or_false, Nat.reduceAdd, Nat.reduceEqDiff, Nat.reduceDiv, Nat.reduceLT, Nat.reduceLeDiff, Nat.zero_add, reduceCtorEq, Bool.false_eq_true, Option.toList_some, Option.toList_none, List.cons_append, List.nil_append, not_true_eq_false, not_false_eq_true, Nat.sub_zero, dsX6_init, xcX6_init, hb, ↓obj_e, z1, z2, hmK, hmN, hmI, hmL, hmR, haI, haL, haR, ak4]
  intro y fy
  have sy := hne _ fy
  simp only [sy, if_false, true_and]
  show G 19 _ _ (inN M x y) _ _
  have xK : ∀ a, mK (inN M x y) a = if a = y then 12 else mK M a := fun a => by unfold inN; simp only [hmK]
  have xN : ∀ a, mN (inN M x y) a = if a = y then 8 else mN M a := fun a => by unfold inN; simp only [hmN]
  have r1 : mR (inN M x y) 192 x = some y := by unfold inN; simp only [hmR, and_self, if_true]
  have i1 : mI (inN M x y) 193 x = 0 := by unfold inN; simp only [hmI, and_self, if_true]
  have xS : ∀ a, a ≠ x → a ≠ y → Sm a M (inN M x y) := fun a a1 a2 => by
    unfold inN
    exact sm_sI a1 (sm_sR a1 (sm_nA a2 Sm.rf))
  generalize inN M x y = X at *
  have xx : mK X x = 7 := by rw [xK, if_neg sy]; exact hb
  refine e_g2 hG [(26, [0])] 120 ?_
  simp only [e_wp_s, Option.getD_some, Option.isSome_some, Option.isSome_none, xis0, xis1, xis2, xis3, xis4, e_ks, lk_k, lk_c, List.lookup_nil, gt_c, vi_i, k1_n, k1_c, k2_n, k2_c, ar_n, ar_c, pk_n, pk_c, rm_0, rm_1, rm_2, rm_3, rm_4, rm_5, rc_9, rcs, fvs, rf_s, rf_n, isI_i, isL_l, isR_r, isR_n, isR_q, ct_i, ct_l, ct_r, ct_n, ct_q, tFs, tCs, tKs, tJs, tSs, e_nf, lgs, ↓reduceIte, true_and, and_true, false_and, and_false, or_true, true_or, false_or, or_false, Nat.reduceAdd, Nat.reduceEqDiff, Nat.reduceDiv, Nat.reduceLT, Nat.reduceLeDiff, Nat.zero_add, reduceCtorEq, Bool.false_eq_true, Option.toList_some, Option.toList_none, List.cons_append, List.nil_append, not_true_eq_false, not_false_eq_true, Nat.sub_zero, dsX6_init, xcX6_init, xx, hmK, hmN, hmI, hmL, hmR, haI, haL, haR]
  refine ⟨by decide, by decide, fun g hg0 => ?_⟩
  have gx : ¬ x = g := fun e => by rw [← e, xx] at hg0; cases hg0
  have gy : ¬ g = y := fun e => by rw [e, xK, if_pos rfl] at hg0; cases hg0
  have gM : mK M g = 0 := by rw [xK, if_neg gy] at hg0; exact hg0
  have yg : ¬ y = g := fun e => gy e.symm
  have gx' : ¬ g = x := fun e => gx e.symm
  refine ⟨O1 (O1 O y (x, x)) g (g, g), by simp only [hmK, if_true], by simp [O1], by decide, by decide, fun O' W hW hF => ?_⟩
  have wS : ∀ a, mK X a ≠ 0 → a ≠ g → mK W a = mK X a ∧ O' a = O1 O y (x, x) a ∧ Sm a X W := fun a ha hag => by
    have ha2 : mK (nO X 1 g) a ≠ 0 := by simp only [hmK, hag, if_false]; exact ha
    obtain ⟨f1, f2, f3⟩ := hF a ha2
    refine ⟨?_, ?_, (sm_nO hag Sm.rf).tr (f3 hag)⟩
    · rw [f1]; simp only [hmK, hag, if_false]
    · rw [f2]; simp [O1, hag]
  have wx := wS x (by rw [xx]; decide) gx
  have wxk : mK W x = 7 := wx.1.trans xx
  have kg : mK W g = 2 := hW.1.1
  refine e_g2 hG [(37, [0])] 120 ?_
  simp only [e_wp_s, Option.getD_some, Option.isSome_some, Option.isSome_none, xis0, xis1, xis2, xis3, xis4, e_ks, lk_k, lk_c, List.lookup_nil, gt_c, vi_i, k1_n, k1_c, k2_n, k2_c, ar_n, ar_c, pk_n, pk_c, rm_0, rm_1, rm_2, rm_3, rm_4, rm_5, rc_9, rcs, fvs, rf_s, rf_n, isI_i, isL_l, isR_r, isR_n, isR_q, ct_i, ct_l, ct_r, ct_n, ct_q, tFs, tCs, tKs, tJs, tSs, e_nf, lgs, ↓reduceIte, true_and, and_true, false_and, and_false, or_true, true_or, false_or, or_false, Nat.reduceAdd, Nat.reduceEqDiff, Nat.reduceDiv, Nat.reduceLT, Nat.reduceLeDiff, Nat.zero_add, reduceCtorEq, Bool.false_eq_true, Option.toList_some, Option.toList_none, List.cons_append, List.nil_append, not_true_eq_false, not_false_eq_true, Nat.sub_zero, dsX6_init, xcX6_init, wxk, hmK, hmN, hmI, hmL, hmR, haI, haL, haR, ↓sp_X2_init]
  refine ⟨by decide, by decide, fun q hq0 => ?_⟩
  have vk : mK (sR W 194 x (some g)) = mK W := by simp only [hmK]
  have qx : ¬ x = q := fun e => by rw [← e, wxk] at hq0; cases hq0
  have qg : ¬ g = q := fun e => by rw [← e, kg] at hq0; cases hq0
  have yw : mK W y = 12 := (wS y (by rw [xK, if_pos rfl]; decide) yg).1.trans (by rw [xK, if_pos rfl])
  have qy : ¬ y = q := fun e => by rw [← e, yw] at hq0; cases hq0
  have qM : mK M q = 0 := by
    cases hMq : mK M q with
    | zero => rfl
    | succ c =>
      have hqy : ¬ q = y := fun e => qy e.symm
      have hqg : q ≠ g := fun e => qg e.symm
      have hXq : mK X q = c + 1 := by rw [xK, if_neg hqy]; exact hMq
      have := (wS q (by rw [hXq]; exact Nat.succ_ne_zero _) hqg).1
      rw [hq0, hXq] at this
      cases this
  obtain ⟨V, hV⟩ : ∃ V, V = qbM (nO (sR W 194 x (some g)) 2 q) q 0 0 := ⟨_, rfl⟩
  rw [← hV]
  have vK : ∀ a, mK V a = if a = q then 3 else mK W a := fun a => by rw [hV]; unfold qbM; simp only [hmK]
  have vS : ∀ a, a ≠ q → a ≠ x → Sm a W V := fun a a1 a2 => by
    rw [hV]; unfold qbM
    exact sm_sI a1 (sm_sI a1 (sm_sI a1 (sm_sL a1 (sm_sL a1 (sm_sL a1 (sm_sI a1 (sm_sI a1 (sm_sI a1 (sm_nO a1 (sm_sR a2 Sm.rf))))))))))
  have vR : ∀ f, mR V f x = if f = 194 then some g else mR W f x := fun f => by
    rw [hV]; unfold qbM; simp only [hmR, qx, if_false, and_true]
  have vI : ∀ f, mI V f x = mI W f x := fun f => by
    rw [hV]; unfold qbM; simp only [hmI, qx, and_false, if_false]
  have vQ : QR V q 0 0 q0 0 0 0 := by
    have := (qb_QR (O := fun _ => (q, q)) (M := nO (sR W 194 x (some g)) 2 q) (q := q) (by simp only [hmK, if_true]) rfl 0 0).1
    rw [← hV] at this
    exact this
  clear hV
  have vx : mK V x = 7 := by rw [vK, if_neg qx]; exact wxk
  refine e_g2 hG [] 120 ?_
  simp only [e_wp_s, Option.getD_some, Option.isSome_some, Option.isSome_none, xis0, xis1, xis2, xis3, xis4, e_ks, lk_k, lk_c, List.lookup_nil, gt_c, vi_i, k1_n, k1_c, k2_n, k2_c, ar_n, ar_c, pk_n, pk_c, rm_0, rm_1, rm_2, rm_3, rm_4, rm_5, rc_9, rcs, fvs, rf_s, rf_n, isI_i, isL_l, isR_r, isR_n, isR_q, ct_i, ct_l, ct_r, ct_n, ct_q, tFs, tCs, tKs, tJs, tSs, e_nf, lgs, ↓reduceIte, true_and, and_true, false_and, and_false, or_true, true_or, false_or, or_false, Nat.reduceAdd, Nat.reduceEqDiff, Nat.reduceDiv, Nat.reduceLT, Nat.reduceLeDiff, Nat.zero_add, reduceCtorEq, Bool.false_eq_true, Option.toList_some, Option.toList_none, List.cons_append, List.nil_append, not_true_eq_false, not_false_eq_true, Nat.sub_zero, dsX6_init, xcX6_init, vx]
  have eR : ∀ f, mR (sR V 195 x (some q)) f x = if f = 195 then some q else if f = 194 then some g else mR X f x := fun f => by
    simp only [hmR, and_true]
    by_cases c : f = 195
    · rw [if_pos c, if_pos c]
    · rw [if_neg c, if_neg c, vR]
      by_cases c2 : f = 194
      · rw [if_pos c2, if_pos c2]
      · rw [if_neg c2, if_neg c2, wx.2.2.2.2.2.2.1]
  have d1 : rws (sR V 195 x (some q)) x = y := by unfold rws; rw [eR, if_neg (by decide), if_neg (by decide), r1]; rfl
  have d2 : gA (sR V 195 x (some q)) x = g := by unfold gA; rw [eR, if_neg (by decide), if_pos rfl]; rfl
  have d3 : qA (sR V 195 x (some q)) x = q := by unfold qA; rw [eR, if_pos rfl]; rfl
  have qOut : ∀ a, mK W a ≠ 0 → a ≠ q := fun a ha e => by rw [e, hq0] at ha; exact ha rfl
  have hFin : Fr (fun a _ => a = x ∨ a = q) O' (O1 O' q (q, q)) W (sR V 195 x (some q)) := fun a ha => by
    have a1 := qOut a ha
    refine ⟨?_, by simp [O1, a1], fun hs => ?_⟩
    · simp only [hmK]; rw [vK, if_neg a1]
    · exact sm_sR (fun e => hs (Or.inl e)) (vS a a1 (fun e => hs (Or.inl e)))
  have yk : y ≠ x := fun e => sy e.symm
  refine hq (O1 O' q (q, q)) _ ⟨⟨⟨?_, ⟨?_, ?_, ?_⟩, ?_, ?_⟩, ?_, ?_⟩, ⟨?_, by decide⟩, fun i S hS => ?_, fun i j hi => absurd hi (Nat.not_lt_zero _), ?_, ?_, 0, 0, q0, ?_⟩ ?_
  · simp only [hmK]; exact vx
  · rw [eR, if_neg (by decide), if_neg (by decide), d1]; exact r1
  · rw [d1]; simp only [hmK]; rw [vK, if_neg qy]; exact yw
  · rw [d1]; simp only [hmN]
    rw [(vS y qy yk).2.1, (wS y (by rw [xK, if_pos rfl]; decide) yg).2.2.2.1, xN, if_pos rfl]
  · rw [eR, if_neg (by decide), if_pos rfl, d2]
  · rw [eR, if_pos rfl, d3]
  · show O1 O' q (q, q) x = (x, x)
    unfold O1; rw [if_neg qx, wx.2.1]
    unfold O1; rw [if_neg sy]; exact ho
  · rw [d1]
    show O1 O' q (q, q) y = (x, x)
    unfold O1; rw [if_neg qy, (wS y (by rw [xK, if_pos rfl]; decide) yg).2.1]
    unfold O1; rw [if_pos rfl]
  · simp only [hmI]; rw [vI, wx.2.2.2.2.1, i1]; rfl
  · simp at hS
  · rw [d2]
    have n1 : ∀ a, mK W a = 2 ∨ mK W a = 9 ∨ mK W a = 10 → ¬ (a = x ∨ a = q) := fun a ha e => e.elim (fun e => by
      rw [e, wxk] at ha; rcases ha with h | h | h <;> cases h) (fun e => by
      rw [e, hq0] at ha; rcases ha with h | h | h <;> cases h)
    exact (hW.frm hFin (n1 _ (Or.inl kg)) (n1 _ (Or.inr (Or.inl hW.1.2.1.2.1))) (n1 _ (Or.inr (Or.inr hW.1.2.2.1.2.1)))).1
  · rw [d3]
    show (O1 O' q (q, q) q).1 = q
    unfold O1; rw [if_pos rfl]
  · rw [d3]
    exact vQ.frm (sm_sR (fun e => qx e.symm) Sm.rf)
  · intro a ha
    have a1 : ¬ a = y := fun e => by rw [e, fy] at ha; exact ha rfl
    have a2 : ¬ a = g := fun e => by rw [e, gM] at ha; exact ha rfl
    have a3 : ¬ a = q := fun e => by rw [e, qM] at ha; exact ha rfl
    have hX : mK X a = mK M a := by rw [xK, if_neg a1]
    obtain ⟨f1, f2, f3⟩ := wS a (by rw [hX]; exact ha) a2
    refine ⟨?_, ?_, fun hs => ?_⟩
    · simp only [hmK]; rw [vK, if_neg a3, f1, hX]
    · show O1 O' q (q, q) a = O a
      unfold O1; rw [if_neg a3, f2]
      unfold O1; rw [if_neg a1]
    · exact sm_sR hs (((xS a hs a1).tr f3).tr (vS a a3 hs))
