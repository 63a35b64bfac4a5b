/-! Gatherer: blocks unpacked -/
theorem RdAt.frm {M N : HM} {r : Nat} {l : List PT} (h : RdAt M r l) (h1 : Sm r M N) (h2 : Sm (rt M r) M N) : RdAt N r l ∧ rt N r = rt M r := by
  obtain ⟨⟨r1, r2, r3, r4, r5⟩, g1, g2, g3, g4⟩ := h
  have eR := h1.2.2.2.2.1
  have eI := h1.2.2.1
  have eL := h1.2.2.2.1
  have e : rt N r = rt M r := by unfold rt; rw [eR]
  refine ⟨⟨⟨h1.1.trans r1, by rw [eR, e]; exact r2, by rw [e]; exact h2.1.trans r3, by rw [e]; exact h2.2.1.trans r4, by rw [eI]; exact r5⟩, by rw [eI]; exact g1, by rw [eI]; exact g2, by rw [eI]; exact g3, fun hl => ?_⟩, e⟩
  rw [eI, eL]; exact g4 hl
theorem opR_at {O : GH} {M : HM} {s b r : Nat} {l : List PT} {f : Nat → Int32} (h : BRep O M s b l f) (hr : mK M r = 4) : RdAt (opR M r b) r [] ∧ rt (opR M r b) r = bt M b ∧ (∀ a, a ≠ r → Sm a M (opR M r b)) ∧ mK (opR M r b) = mK M := by
  obtain ⟨w1, w2, w3, w4, w5⟩ := h.1
  have e : rt (opR M r b) r = bt M b := by
    unfold rt opR
    simp only [hmR, and_self, if_true]; rfl
  have hb : bt M b ≠ r := fun q => by rw [q, hr] at w3; cases w3
  refine ⟨⟨⟨hr, ?_, ?_, ?_, ?_⟩, ?_, ?_, ?_, fun q => absurd rfl q⟩, e, fun a ha => ?_, rfl⟩
  · rw [e]; unfold opR; simp only [hmR, and_self, if_true]
  · rw [e]; exact w3
  · rw [e]; exact w4
  · unfold opR; simp only [hmI, Nat.reduceEqDiff, false_and, and_self, if_false, if_true]; rfl
  · unfold opR; simp only [hmI, Nat.reduceEqDiff, false_and, and_self, if_false, if_true]; rfl
  · unfold opR; simp only [hmI, Nat.reduceEqDiff, false_and, and_self, if_false, if_true]; rfl
  · unfold opR; simp only [hmI, Nat.reduceEqDiff, false_and, and_self, if_false, if_true]; rfl
  · unfold opR; exact sm_sI ha (sm_sI ha (sm_sI ha (sm_sI ha (sm_sR ha Sm.rf))))
def wn (x y : Int32) (p : PT) : Bool := decide (¬ p.1 < x) && decide (p.1 < y)
theorem gm_le {lt : List PT} {a : List PT × Nat} (p : PT) (h : a.2 ≤ lt.length) : (gm lt a p).2 ≤ lt.length ∧ (gm lt a p).1.length + (lt.length - (gm lt a p).2) ≤ a.1.length + (lt.length - a.2) + 1 := by
  obtain ⟨h1, h2⟩ := tlb_le p.1 h
  unfold gm
  split
  · omega
  · refine ⟨h1, ?_⟩
    show ((tlb lt a p.1).1 ++ [p]).length + (lt.length - (tlb lt a p.1).2) ≤ _
    rw [List.length_append]
    simp only [List.length_cons, List.length_nil]
    omega
theorem gms_le {lt : List PT} : ∀ (ps : List PT) (a : List PT × Nat), a.2 ≤ lt.length → (ps.foldl (gm lt) a).2 ≤ lt.length ∧ (ps.foldl (gm lt) a).1.length + (lt.length - (ps.foldl (gm lt) a).2) ≤ a.1.length + (lt.length - a.2) + ps.length
  | [], a, h => ⟨h, Nat.le_refl _⟩
  | p :: ps, a, h => by
    obtain ⟨h1, h2⟩ := gm_le p h
    obtain ⟨h3, h4⟩ := gms_le ps (gm lt a p) h1
    rw [List.foldl_cons, List.length_cons]
    omega
theorem BRep.reads {O : GH} {M : HM} {s b : Nat} {l : List PT} (h : BRep O M s b l zf) {l1 l2 : List PT} (hl : l = l1 ++ l2) : RDS (aI M (bt M b)) 0 (eB (enc l1)) := by
  have := RDS_byt (g := aI M (bt M b)) (bs := eB (enc l)) (fun k => by
    rw [h.2.2.2.2.2.1 k]
    show _ ^^^ (0 : Int32) = _
    rw [Int32.xor_zero])
  rw [hl] at this
  exact this.pre
def csX1_unpack : CS := (cs_c 0 45 2 3 sp_X3_open (cs_c 0 52 1 3 sp_X3_next (cs_c 0 62 4 1 sp_X1_takeMain cs_0)))
theorem csoX1_unpack : ∀ op x na cl sp, csX1_unpack op x = some (na, cl, sp) → CallOK 1 4 88 op x na cl sp := (cs_c_ok (caX1_unpack_45 okX3_open) (cs_c_ok (caX1_unpack_52 okX3_next) (cs_c_ok (caX1_unpack_62 okX1_takeMain) cs_0_ok)))
theorem xcX1_unpack : (∀ (Q : QT) (G : GT) (pc : Nat) (L : LV) (a0 a1 : Value) (r : List Value) (M : HM) (k n : Nat), ex_i 1 4 0 false csX1_unpack Q G (.invokevirtual 45) pc L (a1 :: a0 :: r) M k n = (e_rm r ∧ e_rc M 3 [a0, a1] ∧ sp_X3_open [a0, a1] M k n (fun v M' k' n' => G (pc + 3) L (v.toList ++ r) M' k' n'))) ∧ (∀ (Q : QT) (G : GT) (pc : Nat) (L : LV) (a0 : Value) (r : List Value) (M : HM) (k n : Nat), ex_i 1 4 0 false csX1_unpack Q G (.invokevirtual 52) pc L (a0 :: r) M k n = (e_rm r ∧ e_rc M 3 [a0] ∧ sp_X3_next [a0] M k n (fun v M' k' n' => G (pc + 3) L (v.toList ++ r) M' k' n'))) ∧ (∀ (Q : QT) (G : GT) (pc : Nat) (L : LV) (a0 a1 a2 a3 : Value) (r : List Value) (M : HM) (k n : Nat), ex_i 1 4 0 false csX1_unpack Q G (.invokevirtual 62) pc L (a3 :: a2 :: a1 :: a0 :: r) M k n = (e_rm r ∧ e_rc M 1 [a0, a1, a2, a3] ∧ sp_X1_takeMain [a0, a1, a2, a3] M k n (fun v M' k' n' => G (pc + 3) L (v.toList ++ r) M' k' n'))) := ⟨(fun _ _ _ _ _ _ _ _ _ _ => xv0_2 rfl), (fun _ _ _ _ _ _ _ _ _ => xv0_1 rfl), (fun _ _ _ _ _ _ _ _ _ _ _ _ => xv0_4 rfl)⟩
def sp_X1_unpack : SP := fun as M k n Q => match as with
  | [.ref g, .ref s, .ref b] => ∃ O r acc x y j kd lab sp bk lt l, GG O M r g acc x y j ∧ SRep O M s kd lab sp bk lt ∧ r ≠ s ∧ j ≤ lt.length ∧ BRep O M s b l zf ∧ acc.length + (lt.length - j) + l.length ≤ 340 ∧ ∀ M', GG O M' r g ((l.filter (wn x y)).foldl (gm lt) (acc, j)).1 x y ((l.filter (wn x y)).foldl (gm lt) (acc, j)).2 → Fr (Ss r) O O M M' → Q none M' k n
  | _ => False
theorem okX1_unpack : OkX1_unpack sp_X1_unpack := by
  refine inX1_unpack csoX1_unpack ?_
  intro as M k n Q hsp
  unfold sp_X1_unpack at hsp
  split at hsp
  rotate_left
  · exact hsp.elim
  rename_i g s b
  obtain ⟨O, r, acc, x, y, j, kd, lab, sp, bk, lt, l, hg, hS, hrs, hj, hB, hlen, hq⟩ := hsp
  have h16 := hB.2.2.2.2.2.2.2.2.1.2
  have hsr : ∀ a o, o.1 = s → ¬ Ss r a o := fun a o ho e => hrs (e.symm.trans ho)
  refine ⟨0, 0, Nat.zero_le _, Nat.zero_le _, Nat.le_of_ble_eq_true rfl, fun G hG => ?_⟩
  have loop : ∀ d i M', i + d = l.length → GG O M' r g (((l.take i).filter (wn x y)).foldl (gm lt) (acc, j)).1 x y (((l.take i).filter (wn x y)).foldl (gm lt) (acc, j)).2 → Fr (Ss r) O O M M' → grd M' g = grd M g → RdAt M' (grd M g) (l.take i) → rt M' (grd M g) = bt M b → G 10 [(0, .ref g), (1, .ref s), (2, .ref b), (3, .int (nI i))] [] M' 0 0 := by
    intro d
    induction d with
    | zero =>
      intro i M' hi hg' hF' hrd hR hrt
      have hB' := hB.frm hF' (hsr _ _ rfl) (fun a => hsr _ _ rfl)
      have b0 := hB'.K
      have b4 : mI M' 4 b = nI l.length := hB'.2.2.2.2.2.2.2.2.1.1
      have e1 : ¬ nI i < nI l.length := nI_nlt (by omega) (by omega)
      refine e_g2 hG [] 40 ?_
      simp only [e_wp_s, Option.getD_some, Option.isSome_some, Option.isSome_none, xis0, xis1, xis2, xis3, xis4, e_ks, lk_k, lk_c, List.lookup_nil, gt_c, vi_i, k1_n, k1_c, k2_n, k2_c, ar_n, ar_c, pk_n, pk_c, rm_0, rm_1, rm_2, rm_3, rm_4, rm_5, rc_9, rcs, fvs, rf_s, rf_n, isI_i, isL_l, isR_r, isR_n, isR_q, ct_i, ct_l, ct_r, ct_n, ct_q, tFs, tCs, tKs, tJs, tSs, e_nf, lgs, ↓reduceIte, true_and, and_true, false_and, and_false, or_true, true_or, false_or, or_false, Nat.reduceAdd, Nat.reduceEqDiff, Nat.reduceDiv, Nat.reduceLT, Nat.reduceLeDiff, Nat.zero_add, reduceCtorEq, Bool.false_eq_true, Option.toList_some, Option.toList_none, List.cons_append, List.nil_append, not_true_eq_false, not_false_eq_true, Nat.sub_zero, dsX1_unpack, jsX1_unpack, xcX1_unpack, b0, b4, e1]
      rw [show i = l.length by omega, List.take_length] at hg'
      exact hq M' hg' hF'
    | succ d ih =>
      intro i M' hi hg' hF' hrd hR hrt
      have hB' := hB.frm hF' (hsr _ _ rfl) (fun a => hsr _ _ rfl)
      have b0 := hB'.K
      have b4 : mI M' 4 b = nI l.length := hB'.2.2.2.2.2.2.2.2.1.1
      have e1 : nI i < nI l.length := nI_lt (by omega) (by omega)
      obtain ⟨p, hx⟩ : ∃ p, l[i]? = some p := ⟨_, List.getElem?_eq_getElem (by omega)⟩
      have htk : l.take (i + 1) = l.take i ++ [p] := by rw [List.take_add_one, hx]; rfl
      have g0 := hg'.1.1.1
      have gr : mR M' 38 g = some (grd M g) := by rw [← hrd]; exact hg'.1.1.2.2.2.1
      have gk : mK M' (grd M g) = 4 := by rw [← hrd]; exact hg'.1.1.2.2.2.2
      have hbt : bt M' b = bt M b := by
        have hs := (hF' b (by rw [hB.K]; decide)).2.2 (by rw [hB.2.1.1]; exact hsr _ _ rfl)
        unfold bt; rw [hs.2.2.2.2.1]
      refine e_g2 hG [(25, [0, 1, 2, 3])] 40 ?_
      simp only [e_wp_s, Option.getD_some, Option.isSome_some, Option.isSome_none, xis0, xis1, xis2, xis3, xis4, e_ks, lk_k, lk_c, List.lookup_nil, gt_c, vi_i, k1_n, k1_c, k2_n, k2_c, ar_n, ar_c, pk_n, pk_c, rm_0, rm_1, rm_2, rm_3, rm_4, rm_5, rc_9, rcs, fvs, rf_s, rf_n, isI_i, isL_l, isR_r, isR_n, isR_q, ct_i, ct_l, ct_r, ct_n, ct_q, tFs, tCs, tKs, tJs, tSs, e_nf, lgs, ↓reduceIte, true_and, and_true, false_and, and_false, or_true, true_or, false_or, or_false, Nat.reduceAdd, Nat.reduceEqDiff, Nat.reduceDiv, Nat.reduceLT, Nat.reduceLeDiff, Nat.zero_add, reduceCtorEq, Bool.false_eq_true, Option.toList_some, Option.toList_none, List.cons_append, List.nil_append, not_true_eq_false, not_false_eq_true, Nat.sub_zero, dsX1_unpack, jsX1_unpack, xcX1_unpack, g0, gr, gk, b0, b4, e1]
      refine nxA hR (p := p) ?_ (by rw [List.length_take]; omega) (fun M2 hR2 h103 hsm hK2 hR2' => ?_)
      · rw [hrt, ← hbt, ← htk]
        exact hB'.reads (List.take_append_drop (i + 1) l).symm
      · have hF2 : Fr (S1 (grd M g)) O O M' M2 := fr_K hK2 hsm
        have n1 : g ≠ grd M g := fun e => by rw [← e, g0] at gk; cases gk
        have n2 : gta M' g ≠ grd M g := fun e => by have := hg'.1.1.2.1.2.1; rw [e, gk] at this; cases this
        have n3 : gva M' g ≠ grd M g := fun e => by have := hg'.1.1.2.2.1.2.1; rw [e, gk] at this; cases this
        obtain ⟨hg2, q1, q2, q3⟩ := hg'.frm hF2 n1 n2 n3
        have hFr2 : Fr (Ss r) O O M M2 := hF'.tr (hF2.sub (fun a _ e => by
          show (O a).1 = r
          rw [show a = grd M g from e, ← hrd]; exact hg'.1.2.1.2.2.2))
        have k0 := hg2.1.1.1
        have kr : mR M2 38 g = some (grd M g) := by rw [← hrd, ← q3]; exact hg2.1.1.2.2.2.1
        have kk : mK M2 (grd M g) = 4 := by rw [hK2]; exact gk
        have kx := hg2.2.1
        have ky := hg2.2.2.1
        obtain ⟨tt, tv⟩ := hR2.2.2.2.2 (by simp)
        rw [(enc_T _ p).1] at tt
        rw [(enc_T _ p).2] at tv
        have hrt2 : rt M2 (grd M g) = bt M b := by
          rw [← hrt]; unfold rt; rw [hR2']
        rw [← htk] at hR2
        have hS2 := hS.frm hFr2 hsr
        have hst : ∀ M3, GG O M3 r g (((l.take (i + 1)).filter (wn x y)).foldl (gm lt) (acc, j)).1 x y (((l.take (i + 1)).filter (wn x y)).foldl (gm lt) (acc, j)).2 → Fr (Ss r) O O M M3 → grd M3 g = grd M g → RdAt M3 (grd M g) (l.take (i + 1)) → rt M3 (grd M g) = bt M b → G 72 [(0, .ref g), (1, .ref s), (2, .ref b), (3, .int (nI i))] [] M3 0 0 := by
          intro M3 z1 z2 z3 z4 z5
          refine e_g2 hG [(10, [0, 1, 2, 3])] 40 ?_
          simp only [e_wp_s, Option.getD_some, Option.isSome_some, Option.isSome_none, xis0, xis1, xis2, xis3, xis4, e_ks, lk_k, lk_c, List.lookup_nil, gt_c, vi_i, k1_n, k1_c, k2_n, k2_c, ar_n, ar_c, pk_n, pk_c, rm_0, rm_1, rm_2, rm_3, rm_4, rm_5, rc_9, rcs, fvs, rf_s, rf_n, isI_i, isL_l, isR_r, isR_n, isR_q, ct_i, ct_l, ct_r, ct_n, ct_q, tFs, tCs, tKs, tJs, tSs, e_nf, lgs, ↓reduceIte, true_and, and_true, false_and, and_false, or_true, true_or, false_or, or_false, Nat.reduceAdd, Nat.reduceEqDiff, Nat.reduceDiv, Nat.reduceLT, Nat.reduceLeDiff, Nat.zero_add, reduceCtorEq, Bool.false_eq_true, Option.toList_some, Option.toList_none, List.cons_append, List.nil_append, not_true_eq_false, not_false_eq_true, Nat.sub_zero, dsX1_unpack, jsX1_unpack, xcX1_unpack, nI_1]
          exact ih (i + 1) M3 (by omega) z1 z2 z3 z4 z5
        by_cases c : wn x y p = true
        · have c2 : ¬ p.1 < x ∧ p.1 < y := by
            unfold wn at c
            simpa using c
          have hf : (l.take (i + 1)).filter (wn x y) = (l.take i).filter (wn x y) ++ [p] := by
            rw [htk, List.filter_append]
            congr 1
            simp [c]
          have hb1 := gms_le (lt := lt) ((l.take i).filter (wn x y)) (acc, j) hj
          have hb2 : ((l.take i).filter (wn x y)).length ≤ i := Nat.le_trans (List.length_filter_le _ _) (by rw [List.length_take]; omega)
          refine e_g2 hG [(72, [0, 1, 2, 3])] 60 ?_
          simp only [e_wp_s, Option.getD_some, Option.isSome_some, Option.isSome_none, xis0, xis1, xis2, xis3, xis4, e_ks, lk_k, lk_c, List.lookup_nil, gt_c, vi_i, k1_n, k1_c, k2_n, k2_c, ar_n, ar_c, pk_n, pk_c, rm_0, rm_1, rm_2, rm_3, rm_4, rm_5, rc_9, rcs, fvs, rf_s, rf_n, isI_i, isL_l, isR_r, isR_n, isR_q, ct_i, ct_l, ct_r, ct_n, ct_q, tFs, tCs, tKs, tJs, tSs, e_nf, lgs, ↓reduceIte, true_and, and_true, false_and, and_false, or_true, true_or, false_or, or_false, Nat.reduceAdd, Nat.reduceEqDiff, Nat.reduceDiv, Nat.reduceLT, Nat.reduceLeDiff, Nat.zero_add, reduceCtorEq, Bool.false_eq_true, Option.toList_some, Option.toList_none, List.cons_append, List.nil_append, not_true_eq_false, not_false_eq_true, Nat.sub_zero, dsX1_unpack, jsX1_unpack, xcX1_unpack, k0, kr, kk, kx, ky, tt, tv, c2]
          refine ⟨O, r, _, x, y, _, kd, lab, sp, bk, lt, hg2, hS2, hrs, hb1.1, ?_, fun M3 hg3 he3 hF3 => ?_⟩
          · have hb3 : (((l.take i).filter (wn x y)).foldl (gm lt) (acc, j)).1.length + (lt.length - (((l.take i).filter (wn x y)).foldl (gm lt) (acc, j)).2) ≤ acc.length + (lt.length - j) + ((l.take i).filter (wn x y)).length := hb1.2
            omega
          · have m1 : ¬ S3 g (gta M2 g) (gva M2 g) (grd M g) (O (grd M g)) := by
              rintro (e | e | e)
              · exact n1 e.symm
              · rw [q1] at e; exact n2 e.symm
              · rw [q2] at e; exact n3 e.symm
            have oS : (O (bt M b)).1 = s := by rw [hB.2.1.2]
            have m2 : ¬ S3 g (gta M2 g) (gva M2 g) (bt M b) (O (bt M b)) := by
              rintro (e | e | e)
              · exact hrs (by rw [← oS, e]; exact hg2.1.2.1.1.symm)
              · exact hrs (by rw [← oS, e]; exact hg2.1.2.1.2.1.symm)
              · exact hrs (by rw [← oS, e]; exact hg2.1.2.1.2.2.1.symm)
            have kb : mK M2 (bt M b) ≠ 0 := by rw [(hFr2 (bt M b) (by rw [hB.1.2.2.1]; decide)).1, hB.1.2.2.1]; decide
            obtain ⟨y1, y2⟩ := hR2.frm ((hF3 _ (by rw [kk]; decide)).2.2 m1) (by rw [hrt2]; exact (hF3 _ kb).2.2 m2)
            refine hst M3 ?_ (hFr2.tr (hg2.ser (s := s) hF3)) (by rw [he3.2.2, q3, hrd]) y1 (by rw [y2, hrt2])
            rw [hf, List.foldl_append]
            exact hg3
        · have hf : (l.take (i + 1)).filter (wn x y) = (l.take i).filter (wn x y) := by
            rw [htk, List.filter_append]
            simp [c]
          have hst2 := hst M2 (by rw [hf]; exact hg2) hFr2 (by rw [q3, hrd]) hR2 hrt2
          by_cases c1 : p.1 < x
          · refine e_g2 hG [(72, [0, 1, 2, 3])] 60 ?_
            simp only [e_wp_s, Option.getD_some, Option.isSome_some, Option.isSome_none, xis0, xis1, xis2, xis3, xis4, e_ks, lk_k, lk_c, List.lookup_nil, gt_c, vi_i, k1_n, k1_c, k2_n, k2_c, ar_n, ar_c, pk_n, pk_c, rm_0, rm_1, rm_2, rm_3, rm_4, rm_5, rc_9, rcs, fvs, rf_s, rf_n, isI_i, isL_l, isR_r, isR_n, isR_q, ct_i, ct_l, ct_r, ct_n, ct_q, tFs, tCs, tKs, tJs, tSs, e_nf, lgs, ↓reduceIte, true_and, and_true, false_and, and_false, or_true, true_or, false_or, or_false, Nat.reduceAdd, Nat.reduceEqDiff, Nat.reduceDiv, Nat.reduceLT, Nat.reduceLeDiff, Nat.zero_add, reduceCtorEq, Bool.false_eq_true, Option.toList_some, Option.toList_none, List.cons_append, List.nil_append, not_true_eq_false, not_false_eq_true, Nat.sub_zero, dsX1_unpack, jsX1_unpack, xcX1_unpack, k0, kr, kk, kx, ky, tt, tv, c1]
            exact hst2
          · have c3 : ¬ p.1 < y := fun z => c (by unfold wn; simp [c1, z])
            refine e_g2 hG [(72, [0, 1, 2, 3])] 60 ?_
            simp only [e_wp_s, Option.getD_some, Option.isSome_some, Option.isSome_none, xis0, xis1, xis2, xis3, xis4, e_ks, lk_k, lk_c, List.lookup_nil, gt_c, vi_i, k1_n, k1_c, k2_n, k2_c, ar_n, ar_c, pk_n, pk_c, rm_0, rm_1, rm_2, rm_3, rm_4, rm_5, rc_9, rcs, fvs, rf_s, rf_n, isI_i, isL_l, isR_r, isR_n, isR_q, ct_i, ct_l, ct_r, ct_n, ct_q, tFs, tCs, tKs, tJs, tSs, e_nf, lgs, ↓reduceIte, true_and, and_true, false_and, and_false, or_true, true_or, false_or, or_false, Nat.reduceAdd, Nat.reduceEqDiff, Nat.reduceDiv, Nat.reduceLT, Nat.reduceLeDiff, Nat.zero_add, reduceCtorEq, Bool.false_eq_true, Option.toList_some, Option.toList_none, List.cons_append, List.nil_append, not_true_eq_false, not_false_eq_true, Nat.sub_zero, dsX1_unpack, jsX1_unpack, xcX1_unpack, k0, kr, kk, kx, ky, tt, tv, c1, c3]
            exact hst2
  have g0 := hg.1.1.1
  have gr : mR M 38 g = some (grd M g) := hg.1.1.2.2.2.1
  have gk : mK M (grd M g) = 4 := hg.1.1.2.2.2.2
  have b0 := hB.K
  obtain ⟨y1, y2, y3, y4⟩ := opR_at hB gk
  have hF2 : Fr (S1 (grd M g)) O O M (opR M (grd M g) b) := fr_K y4 y3
  have n1 : g ≠ grd M g := fun e => by rw [← e, g0] at gk; cases gk
  have n2 : gta M g ≠ grd M g := fun e => by have := hg.1.1.2.1.2.1; rw [e, gk] at this; cases this
  have n3 : gva M g ≠ grd M g := fun e => by have := hg.1.1.2.2.1.2.1; rw [e, gk] at this; cases this
  obtain ⟨hg2, q1, q2, q3⟩ := hg.frm hF2 n1 n2 n3
  refine e_g2 hG [(8, [0, 1, 2])] 40 ?_
  simp only [e_wp_s, Option.getD_some, Option.isSome_some, Option.isSome_none, xis0, xis1, xis2, xis3, xis4, e_ks, lk_k, lk_c, List.lookup_nil, gt_c, vi_i, k1_n, k1_c, k2_n, k2_c, ar_n, ar_c, pk_n, pk_c, rm_0, rm_1, rm_2, rm_3, rm_4, rm_5, rc_9, rcs, fvs, rf_s, rf_n, isI_i, isL_l, isR_r, isR_n, isR_q, ct_i, ct_l, ct_r, ct_n, ct_q, tFs, tCs, tKs, tJs, tSs, e_nf, lgs, ↓reduceIte, true_and, and_true, false_and, and_false, or_true, true_or, false_or, or_false, Nat.reduceAdd, Nat.reduceEqDiff, Nat.reduceDiv, Nat.reduceLT, Nat.reduceLeDiff, Nat.zero_add, reduceCtorEq, Bool.false_eq_true, Option.toList_some, Option.toList_none, List.cons_append, List.nil_append, not_true_eq_false, not_false_eq_true, Nat.sub_zero, dsX1_unpack, jsX1_unpack, xcX1_unpack, g0, gr, gk, b0]
  refine ⟨gk, b0, hB.1.2.1, ?_⟩
  refine e_g2 hG [(10, [0, 1, 2, 3])] 40 ?_
  simp only [e_wp_s, Option.getD_some, Option.isSome_some, Option.isSome_none, xis0, xis1, xis2, xis3, xis4, e_ks, lk_k, lk_c, List.lookup_nil, gt_c, vi_i, k1_n, k1_c, k2_n, k2_c, ar_n, ar_c, pk_n, pk_c, rm_0, rm_1, rm_2, rm_3, rm_4, rm_5, rc_9, rcs, fvs, rf_s, rf_n, isI_i, isL_l, isR_r, isR_n, isR_q, ct_i, ct_l, ct_r, ct_n, ct_q, tFs, tCs, tKs, tJs, tSs, e_nf, lgs, ↓reduceIte, true_and, and_true, false_and, and_false, or_true, true_or, false_or, or_false, Nat.reduceAdd, Nat.reduceEqDiff, Nat.reduceDiv, Nat.reduceLT, Nat.reduceLeDiff, Nat.zero_add, reduceCtorEq, Bool.false_eq_true, Option.toList_some, Option.toList_none, List.cons_append, List.nil_append, not_true_eq_false, not_false_eq_true, Nat.sub_zero, dsX1_unpack, jsX1_unpack, xcX1_unpack]
  exact loop l.length 0 _ (by omega) (by rw [List.take_zero]; exact hg2) (hF2.sub (fun a _ e => by
    show (O a).1 = r
    rw [show a = grd M g from e]; exact hg.1.2.1.2.2.2)) q3 (by rw [List.take_zero]; exact y1) y2
