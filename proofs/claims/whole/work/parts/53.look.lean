/-! Question: by heads, by points -/
def tch (a b : Int32) (x : BLK) : Bool := decide (fst1 x.1 < b) && decide (¬ eT (enc x.1) < a)
def wth (a b : Int32) (x : BLK) : Bool := decide (¬ fst1 x.1 < a) && decide (eT (enc x.1) < b)
def hasFT (lt : List PT) (x y : Int32) : Bool := match lt[lbl x lt]? with
  | some q => decide (¬ y < q.1)
  | none => false
def told (a b : Int32) (lt : List PT) (x : BLK) : Bool := tch a b x && (!tornB x && (wth a b x && !hasFT lt (fst1 x.1) (eT (enc x.1))))
def unp (a b : Int32) (lt : List PT) (x : BLK) : Bool := tch a b x && (!tornB x && !(wth a b x && !hasFT lt (fst1 x.1) (eT (enc x.1))))
def trn (a b : Int32) (x : BLK) : Bool := tch a b x && tornB x
def hdQ (x : BLK) : QV := (x.1.length, tot x.1, some (low x.1), some (high x.1))
def ptQ (p : PT) : QV := (1, p.2, some p.2, some p.2)
def szs (f : BLK → Bool) (bk : List BLK) : Nat := ((bk.filter f).map (fun x => x.1.length)).sum
theorem szs_take {f : BLK → Bool} {l : List BLK} {i : Nat} {x : BLK} (hx : l[i]? = some x) : szs f (l.take (i + 1)) = szs f (l.take i) + if f x then x.1.length else 0 := by
  unfold szs
  rw [take_f hx, List.map_append, List.sum_append]
  split <;> simp
theorem mf_take {f : BLK → Bool} {l : List BLK} {i : Nat} {x : BLK} (hx : l[i]? = some x) : mpts ((l.take (i + 1)).filter f) = mpts ((l.take i).filter f) ++ if f x then x.1 else [] := by
  rw [take_f hx, mpts_app]
  split
  · rw [mpts_1]
  · rfl
theorem mf_le (f : BLK → Bool) : ∀ (bk : List BLK), (mpts (bk.filter f)).length ≤ (mpts bk).length
  | [] => Nat.le_refl _
  | x :: bk => by
    have ih := mf_le f bk
    have e : mpts (x :: bk) = x.1 ++ mpts bk := by unfold mpts; simp
    rw [List.filter_cons, e, List.length_append]
    split
    · have e2 : mpts (x :: bk.filter f) = x.1 ++ mpts (bk.filter f) := by unfold mpts; simp
      rw [e2, List.length_append]; omega
    · omega
theorem SRep.hl {O : GH} {M : HM} {s : Nat} {kd : Int32} {lab : Nat → Int32} {sp : List SPN} {bk : List BLK} {lt : List PT} (h : SRep O M s kd lab sp bk lt) (x y : Int32) : hlF M s lt.length x y ↔ hasFT lt x y = true := by
  unfold hlF hasFT
  rw [h.lt x]
  cases hx : lt[lbl x lt]? with
  | none =>
    have := List.getElem?_eq_none_iff.mp hx
    simp only [Bool.false_eq_true, iff_false]
    intro z; omega
  | some q =>
    obtain ⟨w1, w2, w3, w4⟩ := h.ltA hx
    rw [w1]
    simp only [decide_eq_true_iff]
    exact ⟨fun z => z.2, fun z => ⟨w3, z⟩⟩
def S2r (x y : Nat) : Nat → Nat × Nat → Prop := fun _ o => o.1 = x ∨ o.1 = y
def csX2_lookByHeads : CS := (cs_c 0 38 2 2 sp_X2_lookAtSpans (cs_c 0 42 4 1 sp_X1_begin (cs_c 0 53 2 4 sp_X4_blockAt (cs_c 0 57 3 0 sp_X0_touches (cs_c 0 63 1 0 sp_X0_isTorn (cs_c 0 67 3 0 sp_X0_isWithin (cs_c 0 76 3 4 sp_X4_hasLateFromTo (cs_c 0 83 5 2 sp_X2_found (cs_c 0 87 3 1 sp_X1_unpack (cs_c 0 91 2 1 sp_X1_finish (cs_c 0 95 2 1 sp_X1_valueAt cs_0)))))))))))
theorem csoX2_lookByHeads : ∀ op x na cl sp, csX2_lookByHeads op x = some (na, cl, sp) → CallOK 2 5 111 op x na cl sp := (cs_c_ok (caX2_lookByHeads_38 okX2_lookAtSpans) (cs_c_ok (caX2_lookByHeads_42 okX1_begin) (cs_c_ok (caX2_lookByHeads_53 okX4_blockAt) (cs_c_ok (caX2_lookByHeads_57 okX0_touches) (cs_c_ok (caX2_lookByHeads_63 okX0_isTorn) (cs_c_ok (caX2_lookByHeads_67 okX0_isWithin) (cs_c_ok (caX2_lookByHeads_76 okX4_hasLateFromTo) (cs_c_ok (caX2_lookByHeads_83 okX2_found) (cs_c_ok (caX2_lookByHeads_87 okX1_unpack) (cs_c_ok (caX2_lookByHeads_91 okX1_finish) (cs_c_ok (caX2_lookByHeads_95 okX1_valueAt) cs_0_ok)))))))))))
theorem xcX2_lookByHeads : (∀ (Q : QT) (G : GT) (pc : Nat) (L : LV) (a0 a1 : Value) (r : List Value) (M : HM) (k n : Nat), ex_i 2 6 0 false csX2_lookByHeads Q G (.invokevirtual 38) pc L (a1 :: a0 :: r) M k n = (e_rm r ∧ e_rc M 2 [a0, a1] ∧ sp_X2_lookAtSpans [a0, a1] M k n (fun v M' k' n' => G (pc + 3) L (v.toList ++ r) M' k' n'))) ∧ (∀ (Q : QT) (G : GT) (pc : Nat) (L : LV) (a0 a1 a2 a3 : Value) (r : List Value) (M : HM) (k n : Nat), ex_i 2 6 0 false csX2_lookByHeads Q G (.invokevirtual 42) pc L (a3 :: a2 :: a1 :: a0 :: r) M k n = (e_rm r ∧ e_rc M 1 [a0, a1, a2, a3] ∧ sp_X1_begin [a0, a1, a2, a3] M k n (fun v M' k' n' => G (pc + 3) L (v.toList ++ r) M' k' n'))) ∧ (∀ (Q : QT) (G : GT) (pc : Nat) (L : LV) (a0 a1 : Value) (r : List Value) (M : HM) (k n : Nat), ex_i 2 6 0 false csX2_lookByHeads Q G (.invokevirtual 53) pc L (a1 :: a0 :: r) M k n = (e_rm r ∧ e_rc M 4 [a0, a1] ∧ sp_X4_blockAt [a0, a1] M k n (fun v M' k' n' => G (pc + 3) L (v.toList ++ r) M' k' n'))) ∧ (∀ (Q : QT) (G : GT) (pc : Nat) (L : LV) (a0 a1 a2 : Value) (r : List Value) (M : HM) (k n : Nat), ex_i 2 6 0 false csX2_lookByHeads Q G (.invokevirtual 57) pc L (a2 :: a1 :: a0 :: r) M k n = (e_rm r ∧ e_rc M 0 [a0, a1, a2] ∧ sp_X0_touches [a0, a1, a2] M k n (fun v M' k' n' => G (pc + 3) L (v.toList ++ r) M' k' n'))) ∧ (∀ (Q : QT) (G : GT) (pc : Nat) (L : LV) (a0 : Value) (r : List Value) (M : HM) (k n : Nat), ex_i 2 6 0 false csX2_lookByHeads Q G (.invokevirtual 63) pc L (a0 :: r) M k n = (e_rm r ∧ e_rc M 0 [a0] ∧ sp_X0_isTorn [a0] M k n (fun v M' k' n' => G (pc + 3) L (v.toList ++ r) M' k' n'))) ∧ (∀ (Q : QT) (G : GT) (pc : Nat) (L : LV) (a0 a1 a2 : Value) (r : List Value) (M : HM) (k n : Nat), ex_i 2 6 0 false csX2_lookByHeads Q G (.invokevirtual 67) pc L (a2 :: a1 :: a0 :: r) M k n = (e_rm r ∧ e_rc M 0 [a0, a1, a2] ∧ sp_X0_isWithin [a0, a1, a2] M k n (fun v M' k' n' => G (pc + 3) L (v.toList ++ r) M' k' n'))) ∧ (∀ (Q : QT) (G : GT) (pc : Nat) (L : LV) (a0 a1 a2 : Value) (r : List Value) (M : HM) (k n : Nat), ex_i 2 6 0 false csX2_lookByHeads Q G (.invokevirtual 76) pc L (a2 :: a1 :: a0 :: r) M k n = (e_rm r ∧ e_rc M 4 [a0, a1, a2] ∧ sp_X4_hasLateFromTo [a0, a1, a2] M k n (fun v M' k' n' => G (pc + 3) L (v.toList ++ r) M' k' n'))) ∧ (∀ (Q : QT) (G : GT) (pc : Nat) (L : LV) (a0 a1 a2 a3 a4 : Value) (r : List Value) (M : HM) (k n : Nat), ex_i 2 6 0 false csX2_lookByHeads Q G (.invokevirtual 83) pc L (a4 :: a3 :: a2 :: a1 :: a0 :: r) M k n = (e_rm r ∧ e_rc M 2 [a0, a1, a2, a3, a4] ∧ sp_X2_found [a0, a1, a2, a3, a4] M k n (fun v M' k' n' => G (pc + 3) L (v.toList ++ r) M' k' n'))) ∧ (∀ (Q : QT) (G : GT) (pc : Nat) (L : LV) (a0 a1 a2 : Value) (r : List Value) (M : HM) (k n : Nat), ex_i 2 6 0 false csX2_lookByHeads Q G (.invokevirtual 87) pc L (a2 :: a1 :: a0 :: r) M k n = (e_rm r ∧ e_rc M 1 [a0, a1, a2] ∧ sp_X1_unpack [a0, a1, a2] M k n (fun v M' k' n' => G (pc + 3) L (v.toList ++ r) M' k' n'))) ∧ (∀ (Q : QT) (G : GT) (pc : Nat) (L : LV) (a0 a1 : Value) (r : List Value) (M : HM) (k n : Nat), ex_i 2 6 0 false csX2_lookByHeads Q G (.invokevirtual 91) pc L (a1 :: a0 :: r) M k n = (e_rm r ∧ e_rc M 1 [a0, a1] ∧ sp_X1_finish [a0, a1] M k n (fun v M' k' n' => G (pc + 3) L (v.toList ++ r) M' k' n'))) ∧ (∀ (Q : QT) (G : GT) (pc : Nat) (L : LV) (a0 a1 : Value) (r : List Value) (M : HM) (k n : Nat), ex_i 2 6 0 false csX2_lookByHeads Q G (.invokevirtual 95) pc L (a1 :: a0 :: r) M k n = (e_rm r ∧ e_rc M 1 [a0, a1] ∧ sp_X1_valueAt [a0, a1] M k n (fun v M' k' n' => G (pc + 3) L (v.toList ++ r) M' k' n'))) := ⟨(fun _ _ _ _ _ _ _ _ _ _ => xv0_2 rfl), (fun _ _ _ _ _ _ _ _ _ _ _ _ => xv0_4 rfl), (fun _ _ _ _ _ _ _ _ _ _ => xv0_2 rfl), (fun _ _ _ _ _ _ _ _ _ _ _ => xv0_3 rfl), (fun _ _ _ _ _ _ _ _ _ => xv0_1 rfl), (fun _ _ _ _ _ _ _ _ _ _ _ => xv0_3 rfl), (fun _ _ _ _ _ _ _ _ _ _ _ => xv0_3 rfl), (fun _ _ _ _ _ _ _ _ _ _ _ _ _ => xv0_5 rfl), (fun _ _ _ _ _ _ _ _ _ _ _ => xv0_3 rfl), (fun _ _ _ _ _ _ _ _ _ _ => xv0_2 rfl), (fun _ _ _ _ _ _ _ _ _ _ => xv0_2 rfl)⟩
def sp_X2_lookByHeads : SP := fun as M k n Q => match as with
  | [.ref q, .ref s, .ref g] => ∃ O rq r a b u sc ct tr kd lab sp bk lt, QR M q a b u sc ct tr ∧ SRep O M s kd lab sp bk lt ∧ GW O M r g ∧ ((O q).1 = rq ∧ rq ≠ s ∧ r ≠ s ∧ rq ≠ r) ∧ szOK 400 sp ∧ neB bk ∧ (mpts bk).length ≤ 300 ∧ u.1 + 25000 < 2 ^ 31 ∧ ∀ M', QR M' q a b (qfold ptQ (qfold hdQ (qfold (spQ a b) u sp) (bk.filter (told a b lt))) (gth lt a b (mpts (bk.filter (unp a b lt))))) (sc + szs (unp a b lt) bk) (ct + cnt (cuSp a b) sp) (tr + cnt (trn a b) bk) → GW O M' r g → Fr (S2r rq r) O O M M' → Q none M' k n
  | _ => False
theorem okX2_lookByHeads : OkX2_lookByHeads sp_X2_lookByHeads := by
  refine inX2_lookByHeads csoX2_lookByHeads ?_
  intro as M k n Q hsp
  unfold sp_X2_lookByHeads at hsp
  split at hsp
  rotate_left
  · exact hsp.elim
  rename_i q s g
  obtain ⟨O, rq, r, a, b, u, sc, ct, tr, kd, lab, sp, bk, lt, hQ, hS, hg, ⟨hrq, hrqs, hrs, hne⟩, hz, hnb, h300, hu, hq⟩ := hsp
  have hsr : ∀ a o, o.1 = s → ¬ S2r rq r a o := fun a o ho e => e.elim (fun e => hrqs (e.symm.trans ho)) (fun e => hrs (e.symm.trans ho))
  have toQ : ∀ {M1 M2}, Fr (Ss rq) O O M1 M2 → Fr (S2r rq r) O O M1 M2 := fun h => h.mono (fun _ _ e => Or.inl e)
  have toG : ∀ {M1 M2}, Fr (Ss r) O O M1 M2 → Fr (S2r rq r) O O M1 M2 := fun h => h.mono (fun _ _ e => Or.inr e)
  have h40 := hS.2.2.2.2.2.1
  have hbl := hS.2.2.2.1.2.1
  have h60 := hS.2.2.1.2.1
  have hle := lbl_le a lt
  have hu1 : (qfold (spQ a b) u sp).1 ≤ u.1 + 24000 := by
    have := qfold_le (spQ a b) 400 sp u (fun y hy => by
      obtain ⟨m', w1, w2, w3⟩ := hz y hy
      unfold spQ
      split
      · show szN y ≤ 400
        unfold szN; rw [w1, nI_clamp (by omega)]; exact w3
      · exact Nat.zero_le _)
    omega
  refine ⟨0, 0, Nat.zero_le _, Nat.zero_le _, Nat.le_of_ble_eq_true rfl, fun G hG => ?_⟩
  generalize hU1 : qfold (spQ a b) u sp = u1 at *
  -- the points gathered
  have pts : ∀ L, L.length ≤ 340 → ∀ u2 sc2 ct2 tr2, u2.1 + 340 < 2 ^ 31 → ∀ d i M', i + d = L.length → QR M' q a b (qfold ptQ u2 (L.take i)) sc2 ct2 tr2 → GP O M' r g L → (∀ M2, QR M2 q a b (qfold ptQ u2 L) sc2 ct2 tr2 → GP O M2 r g L → Fr (Ss rq) O O M' M2 → Q none M2 k n) → G 174 [(0, .ref q), (1, .ref s), (2, .ref g), (3, .int (nI i))] [] M' 0 0 := by
    intro L hL u2 sc2 ct2 tr2 hu2 d
    induction d with
    | zero =>
      intro i M' hi hQ' hg' hq'
      have g0 := hg'.1.1
      have gc := hg'.2.2.1
      have e1 : ¬ nI i < nI L.length := nI_nlt (by omega) (by omega)
      refine e_g2 hG [] 40 ?_
      simp only [e_wp_s, Option.getD_some, Option.isSome_some, Option.isSome_none, xis0, xis1, xis2, xis3, xis4, e_ks, lk_k, lk_c, List.lookup_nil, gt_c, vi_i, k1_n, k1_c, k2_n, k2_c, ar_n, ar_c, pk_n, pk_c, rm_0, rm_1, rm_2, rm_3, rm_4, rm_5, rc_9, rcs, fvs, rf_s, rf_n, isI_i, isL_l, isR_r, isR_n, isR_q, ct_i, ct_l, ct_r, ct_n, ct_q, tFs, tCs, tKs, tJs, tSs, e_nf, lgs, ↓reduceIte, true_and, and_true, false_and, and_false, or_true, true_or, false_or, or_false, Nat.reduceAdd, Nat.reduceEqDiff, Nat.reduceDiv, Nat.reduceLT, Nat.reduceLeDiff, Nat.zero_add, reduceCtorEq, Bool.false_eq_true, Option.toList_some, Option.toList_none, List.cons_append, List.nil_append, not_true_eq_false, not_false_eq_true, Nat.sub_zero, dsX2_lookByHeads, jsX2_lookByHeads, xcX2_lookByHeads, g0, gc, e1]
      rw [show i = L.length by omega, List.take_length] at hQ'
      exact hq' M' hQ' hg' Fr.rf
    | succ d ih =>
      intro i M' hi hQ' hg' hq'
      have g0 := hg'.1.1
      have g1 := hg'.1
      have gc := hg'.2.2.1
      have k0 := hQ'.1
      have e1 : nI i < nI L.length := nI_lt (by omega) (by omega)
      obtain ⟨p, hx⟩ : ∃ p, L[i]? = some p := ⟨_, List.getElem?_eq_getElem (by omega)⟩
      obtain ⟨t1, t2⟩ := hg'.at_ hx
      have hl2 := qfold_le ptQ 1 (L.take i) u2 (fun _ _ => Nat.le_refl _)
      rw [List.length_take] at hl2
      have hfd := hQ'.fd p.2 p.2 p.2 (m := 1) (by decide) (by omega)
      have hF2 : Fr (Ss rq) O O M' (fdM M' q (nI 1) p.2 p.2 p.2) := fdM_fr hrq
      have ih2 := ih (i + 1) (fdM M' q (nI 1) p.2 p.2 p.2) (by omega) (by rw [take_1 hx, qfold_snoc]; exact hfd) (hg'.frm hF2 (fun a o ho e => hne (e.symm.trans ho))) (fun M2 z1 z2 z3 => hq' M2 z1 z2 (hF2.tr z3))
      refine e_g2 hG [(174, [0, 1, 2, 3])] 60 ?_
      simp only [e_wp_s, Option.getD_some, Option.isSome_some, Option.isSome_none, xis0, xis1, xis2, xis3, xis4, e_ks, lk_k, lk_c, List.lookup_nil, gt_c, vi_i, k1_n, k1_c, k2_n, k2_c, ar_n, ar_c, pk_n, pk_c, rm_0, rm_1, rm_2, rm_3, rm_4, rm_5, rc_9, rcs, fvs, rf_s, rf_n, isI_i, isL_l, isR_r, isR_n, isR_q, ct_i, ct_l, ct_r, ct_n, ct_q, tFs, tCs, tKs, tJs, tSs, e_nf, lgs, ↓reduceIte, true_and, and_true, false_and, and_false, or_true, true_or, false_or, or_false, Nat.reduceAdd, Nat.reduceEqDiff, Nat.reduceDiv, Nat.reduceLT, Nat.reduceLeDiff, Nat.zero_add, reduceCtorEq, Bool.false_eq_true, Option.toList_some, Option.toList_none, List.cons_append, List.nil_append, not_true_eq_false, not_false_eq_true, Nat.sub_zero, dsX2_lookByHeads, jsX2_lookByHeads, xcX2_lookByHeads, g0, g1, gc, e1, t2, k0, nI_1, ↓sp_X1_valueAt, ↓sp_X2_found]
      exact ih2
  -- the blocks
  have loop : ∀ d i M', i + d = bk.length → QR M' q a b (qfold hdQ u1 ((bk.take i).filter (told a b lt))) (sc + szs (unp a b lt) (bk.take i)) (ct + cnt (cuSp a b) sp) (tr + cnt (trn a b) (bk.take i)) → GG O M' r g (((mpts ((bk.take i).filter (unp a b lt))).filter (wn a b)).foldl (gm lt) ([], lbl a lt)).1 a b (((mpts ((bk.take i).filter (unp a b lt))).filter (wn a b)).foldl (gm lt) ([], lbl a lt)).2 → Fr (S2r rq r) O O M M' → G 20 [(0, .ref q), (1, .ref s), (2, .ref g), (3, .int (nI i))] [] M' 0 0 := by
    intro d
    induction d with
    | zero =>
      intro i M' hi hQ' hg' hF'
      have hS' := hS.frm hF' hsr
      have s0 := hS'.1.1.1
      have sc' := hS'.2.2.2.1.1
      have g0 := hg'.1.1.1
      have e1 : ¬ nI i < nI bk.length := nI_nlt (by omega) (by omega)
      rw [show i = bk.length by omega, List.take_length] at hg' hQ'
      have hb := gms_le (lt := lt) ((mpts (bk.filter (unp a b lt))).filter (wn a b)) ([], lbl a lt) hle
      have hb2 : ((mpts (bk.filter (unp a b lt))).filter (wn a b)).length ≤ 300 := Nat.le_trans (List.length_filter_le _ _) (Nat.le_trans (mf_le _ bk) h300)
      have hb3 : (((mpts (bk.filter (unp a b lt))).filter (wn a b)).foldl (gm lt) ([], lbl a lt)).1.length + (lt.length - (((mpts (bk.filter (unp a b lt))).filter (wn a b)).foldl (gm lt) ([], lbl a lt)).2) ≤ 0 + (lt.length - lbl a lt) + ((mpts (bk.filter (unp a b lt))).filter (wn a b)).length := hb.2
      have hu2 : (qfold hdQ u1 (bk.filter (told a b lt))).1 ≤ u1.1 + (mpts bk).length := by
        have key : ∀ (l : List BLK) (v : QV), (qfold hdQ v l).1 = v.1 + (mpts l).length := by
          intro l
          induction l with
          | nil => intro v; rfl
          | cons x l ihl =>
            intro v
            show (qfold hdQ (qadd v (hdQ x)) l).1 = _
            rw [ihl]
            have e : mpts (x :: l) = x.1 ++ mpts l := by unfold mpts; simp
            rw [e, List.length_append]
            show v.1 + x.1.length + _ = _
            omega
        rw [key]
        have := mf_le (told a b lt) bk
        omega
      refine e_g2 hG [(172, [0, 1, 2])] 40 ?_
      simp only [e_wp_s, Option.getD_some, Option.isSome_some, Option.isSome_none, xis0, xis1, xis2, xis3, xis4, e_ks, lk_k, lk_c, List.lookup_nil, gt_c, vi_i, k1_n, k1_c, k2_n, k2_c, ar_n, ar_c, pk_n, pk_c, rm_0, rm_1, rm_2, rm_3, rm_4, rm_5, rc_9, rcs, fvs, rf_s, rf_n, isI_i, isL_l, isR_r, isR_n, isR_q, ct_i, ct_l, ct_r, ct_n, ct_q, tFs, tCs, tKs, tJs, tSs, e_nf, lgs, ↓reduceIte, true_and, and_true, false_and, and_false, or_true, true_or, false_or, or_false, Nat.reduceAdd, Nat.reduceEqDiff, Nat.reduceDiv, Nat.reduceLT, Nat.reduceLeDiff, Nat.zero_add, reduceCtorEq, Bool.false_eq_true, Option.toList_some, Option.toList_none, List.cons_append, List.nil_append, not_true_eq_false, not_false_eq_true, Nat.sub_zero, dsX2_lookByHeads, jsX2_lookByHeads, xcX2_lookByHeads, s0, sc', g0, e1]
      refine ⟨O, r, _, _, _, _, kd, lab, sp, bk, lt, hg', hS', hrs, hb.1, by omega, fun M2 hg2 hF2 => ?_⟩
      have hQ2 := hQ'.frm ((hF2 q (by rw [hQ'.1]; decide)).2.2 (fun e => hne (hrq.symm.trans e)))
      refine e_g2 hG [(174, [0, 1, 2, 3])] 40 ?_
      simp only [e_wp_s, Option.getD_some, Option.isSome_some, Option.isSome_none, xis0, xis1, xis2, xis3, xis4, e_ks, lk_k, lk_c, List.lookup_nil, gt_c, vi_i, k1_n, k1_c, k2_n, k2_c, ar_n, ar_c, pk_n, pk_c, rm_0, rm_1, rm_2, rm_3, rm_4, rm_5, rc_9, rcs, fvs, rf_s, rf_n, isI_i, isL_l, isR_r, isR_n, isR_q, ct_i, ct_l, ct_r, ct_n, ct_q, tFs, tCs, tKs, tJs, tSs, e_nf, lgs, ↓reduceIte, true_and, and_true, false_and, and_false, or_true, true_or, false_or, or_false, Nat.reduceAdd, Nat.reduceEqDiff, Nat.reduceDiv, Nat.reduceLT, Nat.reduceLeDiff, Nat.zero_add, reduceCtorEq, Bool.false_eq_true, Option.toList_some, Option.toList_none, List.cons_append, List.nil_append, not_true_eq_false, not_false_eq_true, Nat.sub_zero, dsX2_lookByHeads, jsX2_lookByHeads, xcX2_lookByHeads]
      refine pts (gth lt a b (mpts (bk.filter (unp a b lt)))) hg2.2.2.2.1 (qfold hdQ u1 (bk.filter (told a b lt))) _ _ _ (by omega) _ 0 M2 (Nat.zero_add _) (by rw [List.take_zero]; exact hQ2) hg2 (fun M3 hQ3 hg3 hF3 => ?_)
      exact hq M3 hQ3 hg3.w ((hF'.tr (toG hF2)).tr (toQ hF3))
    | succ d ih =>
      intro i M' hi hQ' hg' hF'
      have hS' := hS.frm hF' hsr
      have s0 := hS'.1.1.1
      have sR := hS'.1.1
      have sc' := hS'.2.2.2.1.1
      have g0 := hg'.1.1.1
      obtain ⟨k0, k1, k2, -, -, -, -, k70, k71, k72⟩ := id hQ'
      have e1 : nI i < nI bk.length := nI_lt (by omega) (by omega)
      obtain ⟨x, hx⟩ : ∃ x, bk[i]? = some x := ⟨_, List.getElem?_eq_getElem (by omega)⟩
      obtain ⟨b', fb, -, hB, -⟩ := hS'.bAt hx
      have b0 := hB.K
      have hxn := hnb x (List.mem_of_getElem? hx)
      have hxl : 0 < x.1.length := by
        cases hl : x.1 with
        | nil => exact absurd hl hxn
        | cons _ _ => exact Nat.succ_pos _
      have hB2 := hB
      obtain ⟨-, -, -, -, -, -, -, -, ⟨v4, v16⟩, v9, -, -, -, hv⟩ := hB2
      obtain ⟨v5, v6, -, v7, v8⟩ := hv hxn
      have v0 : 0 < nI x.1.length := nI_lt (a := 0) hxl (by omega)
      have ih2 := ih (i + 1)
      rw [take_f hx, mf_take hx, szs_take hx, cnt_take hx] at ih2
      by_cases ct1 : fst1 x.1 < b ∧ ¬ eT (enc x.1) < a
      · have ct2 : tch a b x = true := by unfold tch; simp [ct1.1, ct1.2]
        by_cases c : tornB x = true
        · have ht := hB.torn.mpr c
          have f1 : told a b lt x = false := by unfold told; simp [c]
          have f2 : unp a b lt x = false := by unfold unp; simp [c]
          have f3 : trn a b x = true := by unfold trn; simp [c, ct2]
          simp only [f1, f2, f3, Bool.false_eq_true, ↓reduceIte, List.append_nil, Nat.add_zero] at ih2
          refine e_g2 hG [(20, [0, 1, 2, 3])] 60 ?_
          simp only [e_wp_s, Option.getD_some, Option.isSome_some, Option.isSome_none, xis0, xis1, xis2, xis3, xis4, e_ks, lk_k, lk_c, List.lookup_nil, gt_c, vi_i, k1_n, k1_c, k2_n, k2_c, ar_n, ar_c, pk_n, pk_c, rm_0, rm_1, rm_2, rm_3, rm_4, rm_5, rc_9, rcs, fvs, rf_s, rf_n, isI_i, isL_l, isR_r, isR_n, isR_q, ct_i, ct_l, ct_r, ct_n, ct_q, tFs, tCs, tKs, tJs, tSs, e_nf, lgs, ↓reduceIte, true_and, and_true, false_and, and_false, or_true, true_or, false_or, or_false, Nat.reduceAdd, Nat.reduceEqDiff, Nat.reduceDiv, Nat.reduceLT, Nat.reduceLeDiff, Nat.zero_add, reduceCtorEq, Bool.false_eq_true, Option.toList_some, Option.toList_none, List.cons_append, List.nil_append, not_true_eq_false, not_false_eq_true, Nat.sub_zero, dsX2_lookByHeads, jsX2_lookByHeads, xcX2_lookByHeads, s0, sR, sc', g0, e1, fb, b0, v4, v5, v6, v0, ct1, ht, k0, k1, k2, k72, i10, nI_1, ↓sp_X4_blockAt, ↓sp_X0_touches, ↓sp_X0_isTorn]
          have hF2 : Fr (Ss rq) O O M' (sI M' 72 q (nI (tr + cnt (trn a b) (bk.take i) + 1))) := s7_fr hrq
          have hg2 := (hg'.frm hF2 (fun e => hne (e.symm.trans hg'.1.2.1.1)) (fun e => hne (e.symm.trans hg'.1.2.1.2.1)) (fun e => hne (e.symm.trans hg'.1.2.1.2.2.1))).1
          exact ih2 _ (by omega) hQ'.s72 hg2 (hF'.tr (toQ hF2))
        · have ht : ¬ 0 < mI M' 2 b' := fun z => c (hB.torn.mp z)
          have hz0 : x.2 = zf := hB.z (by
            unfold tornB at c
            simpa using c)
          have f3 : trn a b x = false := by unfold trn; simp [c]
          have unpk : unp a b lt x = true → told a b lt x = false → G 140 [(0, .ref q), (1, .ref s), (2, .ref g), (3, .int (nI i)), (4, .ref b')] [] M' 0 0 := by
            intro f2 f1
            rw [f1, f2, f3, if_neg (by decide), if_pos rfl, if_pos rfl, if_neg (by decide), List.append_nil, Nat.add_zero, List.filter_append, List.foldl_append] at ih2
            rw [hz0] at hB
            have hb := gms_le (lt := lt) ((mpts ((bk.take i).filter (unp a b lt))).filter (wn a b)) ([], lbl a lt) hle
            have hm : (mpts ((bk.take (i + 1)).filter (unp a b lt))).length ≤ 300 := Nat.le_trans (mf_le _ _) (Nat.le_trans (mpts_take bk (i + 1)) h300)
            rw [mf_take hx, f2, if_pos rfl, List.length_append] at hm
            have hb2 : ((mpts ((bk.take i).filter (unp a b lt))).filter (wn a b)).length ≤ (mpts ((bk.take i).filter (unp a b lt))).length := List.length_filter_le _ _
            have hb3 : (((mpts ((bk.take i).filter (unp a b lt))).filter (wn a b)).foldl (gm lt) ([], lbl a lt)).1.length + (lt.length - (((mpts ((bk.take i).filter (unp a b lt))).filter (wn a b)).foldl (gm lt) ([], lbl a lt)).2) ≤ 0 + (lt.length - lbl a lt) + ((mpts ((bk.take i).filter (unp a b lt))).filter (wn a b)).length := hb.2
            refine e_g2 hG [(147, [0, 1, 2, 3, 4])] 40 ?_
            simp only [e_wp_s, Option.getD_some, Option.isSome_some, Option.isSome_none, xis0, xis1, xis2, xis3, xis4, e_ks, lk_k, lk_c, List.lookup_nil, gt_c, vi_i, k1_n, k1_c, k2_n, k2_c, ar_n, ar_c, pk_n, pk_c, rm_0, rm_1, rm_2, rm_3, rm_4, rm_5, rc_9, rcs, fvs, rf_s, rf_n, isI_i, isL_l, isR_r, isR_n, isR_q, ct_i, ct_l, ct_r, ct_n, ct_q, tFs, tCs, tKs, tJs, tSs, e_nf, lgs, ↓reduceIte, true_and, and_true, false_and, and_false, or_true, true_or, false_or, or_false, Nat.reduceAdd, Nat.reduceEqDiff, Nat.reduceDiv, Nat.reduceLT, Nat.reduceLeDiff, Nat.zero_add, reduceCtorEq, Bool.false_eq_true, Option.toList_some, Option.toList_none, List.cons_append, List.nil_append, not_true_eq_false, not_false_eq_true, Nat.sub_zero, dsX2_lookByHeads, jsX2_lookByHeads, xcX2_lookByHeads, g0]
            refine ⟨O, r, _, _, _, _, kd, lab, sp, bk, lt, x.1, hg', hS', hrs, hb.1, hB, by omega, fun M2 hg2 hF2 => ?_⟩
            have hQ2 := hQ'.frm ((hF2 q (by rw [hQ'.1]; decide)).2.2 (fun e => hne (hrq.symm.trans e)))
            have hB3 := hB.frm hF2 (fun e => hrs e.symm) (fun a e => hrs e.symm)
            have y0 := hB3.K
            have y4 : mI M2 4 b' = nI x.1.length := hB3.2.2.2.2.2.2.2.2.1.1
            have q0' := hQ2.1
            have q70 : mI M2 70 q = nI (sc + szs (unp a b lt) (bk.take i)) := hQ2.2.2.2.2.2.2.2.1
            have hF3 : Fr (Ss rq) O O M2 (sI M2 70 q (nI (sc + szs (unp a b lt) (bk.take i) + x.1.length))) := s7_fr hrq
            have hg3 := (hg2.frm hF3 (fun e => hne (e.symm.trans hg2.1.2.1.1)) (fun e => hne (e.symm.trans hg2.1.2.1.2.1)) (fun e => hne (e.symm.trans hg2.1.2.1.2.2.1))).1
            refine e_g2 hG [(20, [0, 1, 2, 3])] 40 ?_
            simp only [e_wp_s, Option.getD_some, Option.isSome_some, Option.isSome_none, xis0, xis1, xis2, xis3, xis4, e_ks, lk_k, lk_c, List.lookup_nil, gt_c, vi_i, k1_n, k1_c, k2_n, k2_c, ar_n, ar_c, pk_n, pk_c, rm_0, rm_1, rm_2, rm_3, rm_4, rm_5, rc_9, rcs, fvs, rf_s, rf_n, isI_i, isL_l, isR_r, isR_n, isR_q, ct_i, ct_l, ct_r, ct_n, ct_q, tFs, tCs, tKs, tJs, tSs, e_nf, lgs, ↓reduceIte, true_and, and_true, false_and, and_false, or_true, true_or, false_or, or_false, Nat.reduceAdd, Nat.reduceEqDiff, Nat.reduceDiv, Nat.reduceLT, Nat.reduceLeDiff, Nat.zero_add, reduceCtorEq, Bool.false_eq_true, Option.toList_some, Option.toList_none, List.cons_append, List.nil_append, not_true_eq_false, not_false_eq_true, Nat.sub_zero, dsX2_lookByHeads, jsX2_lookByHeads, xcX2_lookByHeads, y0, y4, q0', q70, nI_add, nI_1]
            exact ih2 _ (by omega) (by rw [← Nat.add_assoc]; exact hQ2.s70) hg3 ((hF'.tr (toG hF2)).tr (toQ hF3))
          by_cases cw : ¬ fst1 x.1 < a ∧ eT (enc x.1) < b
          · have cw2 : wth a b x = true := by unfold wth; simp [cw.1, cw.2]
            by_cases ch : hasFT lt (fst1 x.1) (eT (enc x.1)) = true
            · have f1 : told a b lt x = false := by unfold told; simp [ch]
              have f2 : unp a b lt x = true := by unfold unp; simp [ch, c, ct2]
              refine e_g2 hG [(140, [0, 1, 2, 3, 4])] 60 ?_
              simp only [e_wp_s, Option.getD_some, Option.isSome_some, Option.isSome_none, xis0, xis1, xis2, xis3, xis4, e_ks, lk_k, lk_c, List.lookup_nil, gt_c, vi_i, k1_n, k1_c, k2_n, k2_c, ar_n, ar_c, pk_n, pk_c, rm_0, rm_1, rm_2, rm_3, rm_4, rm_5, rc_9, rcs, fvs, rf_s, rf_n, isI_i, isL_l, isR_r, isR_n, isR_q, ct_i, ct_l, ct_r, ct_n, ct_q, tFs, tCs, tKs, tJs, tSs, e_nf, lgs, ↓reduceIte, true_and, and_true, false_and, and_false, or_true, true_or, false_or, or_false, Nat.reduceAdd, Nat.reduceEqDiff, Nat.reduceDiv, Nat.reduceLT, Nat.reduceLeDiff, Nat.zero_add, reduceCtorEq, Bool.false_eq_true, Option.toList_some, Option.toList_none, List.cons_append, List.nil_append, not_true_eq_false, not_false_eq_true, Nat.sub_zero, dsX2_lookByHeads, jsX2_lookByHeads, xcX2_lookByHeads, s0, sR, sc', g0, e1, fb, b0, v4, v5, v6, v0, ct1, ht, cw, k0, k1, k2, i10, ↓sp_X4_blockAt, ↓sp_X0_touches, ↓sp_X0_isTorn, ↓sp_X0_isWithin, ↓sp_X4_hasLateFromTo]
              refine ⟨_, hS'.2.2.2.2.1, h40, fun _ => unpk f2 f1, fun z => absurd ((hS'.hl _ _).mpr ch) z⟩
            · have f1 : told a b lt x = true := by unfold told; simp [ch, c, ct2, cw2]
              have f2 : unp a b lt x = false := by unfold unp; simp [ch, cw2]
              rw [f1, f2, f3, if_pos rfl, if_neg (by decide), if_neg (by decide), if_neg (by decide), List.append_nil, Nat.add_zero, Nat.add_zero, qfold_snoc] at ih2
              have hfd := hQ'.fd (tot x.1) (low x.1) (high x.1) hxl (by
                have key : ∀ (l : List BLK) (v : QV), (qfold hdQ v l).1 = v.1 + (mpts l).length := by
                  intro l
                  induction l with
                  | nil => intro v; rfl
                  | cons x l ihl =>
                    intro v
                    show (qfold hdQ (qadd v (hdQ x)) l).1 = _
                    rw [ihl]
                    have e : mpts (x :: l) = x.1 ++ mpts l := by unfold mpts; simp
                    rw [e, List.length_append]
                    show v.1 + x.1.length + _ = _
                    omega
                rw [key]
                have := mf_le (told a b lt) (bk.take i)
                have := mpts_take bk i
                omega)
              refine e_g2 hG [(20, [0, 1, 2, 3])] 60 ?_
              simp only [e_wp_s, Option.getD_some, Option.isSome_some, Option.isSome_none, xis0, xis1, xis2, xis3, xis4, e_ks, lk_k, lk_c, List.lookup_nil, gt_c, vi_i, k1_n, k1_c, k2_n, k2_c, ar_n, ar_c, pk_n, pk_c, rm_0, rm_1, rm_2, rm_3, rm_4, rm_5, rc_9, rcs, fvs, rf_s, rf_n, isI_i, isL_l, isR_r, isR_n, isR_q, ct_i, ct_l, ct_r, ct_n, ct_q, tFs, tCs, tKs, tJs, tSs, e_nf, lgs, ↓reduceIte, true_and, and_true, false_and, and_false, or_true, true_or, false_or, or_false, Nat.reduceAdd, Nat.reduceEqDiff, Nat.reduceDiv, Nat.reduceLT, Nat.reduceLeDiff, Nat.zero_add, reduceCtorEq, Bool.false_eq_true, Option.toList_some, Option.toList_none, List.cons_append, List.nil_append, not_true_eq_false, not_false_eq_true, Nat.sub_zero, dsX2_lookByHeads, jsX2_lookByHeads, xcX2_lookByHeads, s0, sR, sc', g0, e1, fb, b0, v4, v5, v6, v7, v8, v9, v0, ct1, ht, cw, k0, k1, k2, i10, nI_1, ↓sp_X4_blockAt, ↓sp_X0_touches, ↓sp_X0_isTorn, ↓sp_X0_isWithin, ↓sp_X4_hasLateFromTo, ↓sp_X2_found]
              have hF2 : Fr (Ss rq) O O M' (fdM M' q (nI x.1.length) (tot x.1) (low x.1) (high x.1)) := fdM_fr hrq
              have hg2 := (hg'.frm hF2 (fun e => hne (e.symm.trans hg'.1.2.1.1)) (fun e => hne (e.symm.trans hg'.1.2.1.2.1)) (fun e => hne (e.symm.trans hg'.1.2.1.2.2.1))).1
              refine ⟨_, hS'.2.2.2.2.1, h40, fun z => absurd ((hS'.hl _ _).mp z) ch, fun _ => ?_⟩
              exact ih2 _ (by omega) hfd hg2 (hF'.tr (toQ hF2))
          · have cw2 : wth a b x = false := by
              unfold wth
              rcases Decidable.not_and_iff_not_or_not.mp cw with z | z
              · simp only [Decidable.not_not] at z; simp [z]
              · simp [z]
            have f1 : told a b lt x = false := by unfold told; simp [cw2]
            have f2 : unp a b lt x = true := by unfold unp; simp [cw2, c, ct2]
            refine e_g2 hG [(140, [0, 1, 2, 3, 4])] 60 ?_
            simp only [e_wp_s, Option.getD_some, Option.isSome_some, Option.isSome_none, xis0, xis1, xis2, xis3, xis4, e_ks, lk_k, lk_c, List.lookup_nil, gt_c, vi_i, k1_n, k1_c, k2_n, k2_c, ar_n, ar_c, pk_n, pk_c, rm_0, rm_1, rm_2, rm_3, rm_4, rm_5, rc_9, rcs, fvs, rf_s, rf_n, isI_i, isL_l, isR_r, isR_n, isR_q, ct_i, ct_l, ct_r, ct_n, ct_q, tFs, tCs, tKs, tJs, tSs, e_nf, lgs, ↓reduceIte, true_and, and_true, false_and, and_false, or_true, true_or, false_or, or_false, Nat.reduceAdd, Nat.reduceEqDiff, Nat.reduceDiv, Nat.reduceLT, Nat.reduceLeDiff, Nat.zero_add, reduceCtorEq, Bool.false_eq_true, Option.toList_some, Option.toList_none, List.cons_append, List.nil_append, not_true_eq_false, not_false_eq_true, Nat.sub_zero, dsX2_lookByHeads, jsX2_lookByHeads, xcX2_lookByHeads, s0, sR, sc', g0, e1, fb, b0, v4, v5, v6, v0, ct1, ht, cw, k0, k1, k2, i10, ↓sp_X4_blockAt, ↓sp_X0_touches, ↓sp_X0_isTorn, ↓sp_X0_isWithin]
            exact unpk f2 f1
      · have ct2 : tch a b x = false := by
          unfold tch
          rcases Decidable.not_and_iff_not_or_not.mp ct1 with z | z
          · simp [z]
          · simp only [Decidable.not_not] at z; simp [z]
        have f1 : told a b lt x = false := by unfold told; simp [ct2]
        have f2 : unp a b lt x = false := by unfold unp; simp [ct2]
        have f3 : trn a b x = false := by unfold trn; simp [ct2]
        rw [f1, f2, f3, if_neg (by decide), if_neg (by decide), if_neg (by decide), if_neg (by decide), List.append_nil, List.append_nil] at ih2
        refine e_g2 hG [(20, [0, 1, 2, 3])] 60 ?_
        simp only [e_wp_s, Option.getD_some, Option.isSome_some, Option.isSome_none, xis0, xis1, xis2, xis3, xis4, e_ks, lk_k, lk_c, List.lookup_nil, gt_c, vi_i, k1_n, k1_c, k2_n, k2_c, ar_n, ar_c, pk_n, pk_c, rm_0, rm_1, rm_2, rm_3, rm_4, rm_5, rc_9, rcs, fvs, rf_s, rf_n, isI_i, isL_l, isR_r, isR_n, isR_q, ct_i, ct_l, ct_r, ct_n, ct_q, tFs, tCs, tKs, tJs, tSs, e_nf, lgs, ↓reduceIte, true_and, and_true, false_and, and_false, or_true, true_or, false_or, or_false, Nat.reduceAdd, Nat.reduceEqDiff, Nat.reduceDiv, Nat.reduceLT, Nat.reduceLeDiff, Nat.zero_add, reduceCtorEq, Bool.false_eq_true, Option.toList_some, Option.toList_none, List.cons_append, List.nil_append, not_true_eq_false, not_false_eq_true, Nat.sub_zero, dsX2_lookByHeads, jsX2_lookByHeads, xcX2_lookByHeads, s0, sR, sc', g0, e1, fb, b0, v4, v5, v6, v0, ct1, k0, k1, k2, i10, nI_1, ↓sp_X4_blockAt, ↓sp_X0_touches]
        exact ih2 _ (by omega) hQ' hg' hF'
  have k0 := hQ.1
  refine e_g2 hG [(5, [0, 1, 2])] 40 ?_
  simp only [e_wp_s, Option.getD_some, Option.isSome_some, Option.isSome_none, xis0, xis1, xis2, xis3, xis4, e_ks, lk_k, lk_c, List.lookup_nil, gt_c, vi_i, k1_n, k1_c, k2_n, k2_c, ar_n, ar_c, pk_n, pk_c, rm_0, rm_1, rm_2, rm_3, rm_4, rm_5, rc_9, rcs, fvs, rf_s, rf_n, isI_i, isL_l, isR_r, isR_n, isR_q, ct_i, ct_l, ct_r, ct_n, ct_q, tFs, tCs, tKs, tJs, tSs, e_nf, lgs, ↓reduceIte, true_and, and_true, false_and, and_false, or_true, true_or, false_or, or_false, Nat.reduceAdd, Nat.reduceEqDiff, Nat.reduceDiv, Nat.reduceLT, Nat.reduceLeDiff, Nat.zero_add, reduceCtorEq, Bool.false_eq_true, Option.toList_some, Option.toList_none, List.cons_append, List.nil_append, not_true_eq_false, not_false_eq_true, Nat.sub_zero, dsX2_lookByHeads, jsX2_lookByHeads, xcX2_lookByHeads, k0]
  refine ⟨O, rq, a, b, u, sc, ct, tr, kd, lab, sp, bk, lt, hQ, hS, hrq, hrqs, hz, by omega, fun M1 hQ1 hF1 => ?_⟩
  rw [hU1] at hQ1
  obtain ⟨w0, w1, w2, -⟩ := id hQ1
  have hS1 := hS.frm hF1 (fun a o ho e => hrqs (e.symm.trans ho))
  have hg1 := (hg.frm hF1 (fun e => hne (e.symm.trans hg.2.1)) (fun e => hne (e.symm.trans hg.2.2.1)) (fun e => hne (e.symm.trans hg.2.2.2.1))).1
  have g0 := hg1.1.1
  obtain ⟨z1, z2⟩ := hg1.bg a b (lbl a lt)
  refine e_g2 hG [(18, [0, 1, 2])] 40 ?_
  simp only [e_wp_s, Option.getD_some, Option.isSome_some, Option.isSome_none, xis0, xis1, xis2, xis3, xis4, e_ks, lk_k, lk_c, List.lookup_nil, gt_c, vi_i, k1_n, k1_c, k2_n, k2_c, ar_n, ar_c, pk_n, pk_c, rm_0, rm_1, rm_2, rm_3, rm_4, rm_5, rc_9, rcs, fvs, rf_s, rf_n, isI_i, isL_l, isR_r, isR_n, isR_q, ct_i, ct_l, ct_r, ct_n, ct_q, tFs, tCs, tKs, tJs, tSs, e_nf, lgs, ↓reduceIte, true_and, and_true, false_and, and_false, or_true, true_or, false_or, or_false, Nat.reduceAdd, Nat.reduceEqDiff, Nat.reduceDiv, Nat.reduceLT, Nat.reduceLeDiff, Nat.zero_add, reduceCtorEq, Bool.false_eq_true, Option.toList_some, Option.toList_none, List.cons_append, List.nil_append, not_true_eq_false, not_false_eq_true, Nat.sub_zero, dsX2_lookByHeads, jsX2_lookByHeads, xcX2_lookByHeads, w0, w1, w2, g0]
  refine ⟨lt.length, g0, hS1.1.1, hS1.2.2.2.2.1, h40, ?_⟩
  rw [hS1.lt]
  refine e_g2 hG [(20, [0, 1, 2, 3])] 40 ?_
  simp only [e_wp_s, Option.getD_some, Option.isSome_some, Option.isSome_none, xis0, xis1, xis2, xis3, xis4, e_ks, lk_k, lk_c, List.lookup_nil, gt_c, vi_i, k1_n, k1_c, k2_n, k2_c, ar_n, ar_c, pk_n, pk_c, rm_0, rm_1, rm_2, rm_3, rm_4, rm_5, rc_9, rcs, fvs, rf_s, rf_n, isI_i, isL_l, isR_r, isR_n, isR_q, ct_i, ct_l, ct_r, ct_n, ct_q, tFs, tCs, tKs, tJs, tSs, e_nf, lgs, ↓reduceIte, true_and, and_true, false_and, and_false, or_true, true_or, false_or, or_false, Nat.reduceAdd, Nat.reduceEqDiff, Nat.reduceDiv, Nat.reduceLT, Nat.reduceLeDiff, Nat.zero_add, reduceCtorEq, Bool.false_eq_true, Option.toList_some, Option.toList_none, List.cons_append, List.nil_append, not_true_eq_false, not_false_eq_true, Nat.sub_zero, dsX2_lookByHeads, jsX2_lookByHeads, xcX2_lookByHeads]
  have hQ2 := hQ1.frm ((z2 q (by rw [hQ1.1]; decide)).2.2 (fun e => hne (hrq.symm.trans e)))
  exact loop bk.length 0 _ (by omega) hQ2 z1 ((toQ hF1).tr (toG z2))
