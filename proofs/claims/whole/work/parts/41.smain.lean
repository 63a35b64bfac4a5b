/-! Series: blocks opened, points appended -/
theorem SRep.bAt {O : GH} {M : HM} {s i : Nat} {kd : Int32} {lab : Nat → Int32} {sp : List SPN} {bk : List BLK} {lt : List PT} {x : BLK} (h : SRep O M s kd lab sp bk lt) (hx : bk[i]? = some x) : ∃ b, bkF M s (nI i) = some b ∧ aR M (bks M s) i = some b ∧ BRep O M s b x.1 x.2 ∧ i < 300 := by
  obtain ⟨h1, h2, h3, h4⟩ := h.2.2.2.1.2
  obtain ⟨b, hb, hr⟩ := h3 i x hx
  have hi : i < bk.length := (List.getElem?_eq_some_iff.mp hx).1
  refine ⟨b, ?_, hb, hr, by omega⟩
  unfold bkF
  rw [h.2.2.2.1.1, if_pos ⟨nI_pos (by omega), nI_lt hi (by omega), nI_lt (b := 300) (by omega) (by decide)⟩, nI_clamp (by omega)]
  exact hb
theorem SRep.bNo {O : GH} {M : HM} {s : Nat} {kd : Int32} {lab : Nat → Int32} {sp : List SPN} {bk : List BLK} {lt : List PT} {v : Int32} (h : SRep O M s kd lab sp bk lt) (hv : v < 0 ∨ ∃ i, v = nI i ∧ i < 2 ^ 31 ∧ bk.length ≤ i) : bkF M s v = none := by
  unfold bkF
  rw [if_neg]
  rintro ⟨h1, h2, h3⟩
  rcases hv with hv | ⟨i, rfl, hi, hl⟩
  · exact h1 hv
  · rw [h.2.2.2.1.1] at h2
    exact nI_nlt hl hi h2
theorem SRep.BK {O : GH} {M : HM} {s : Nat} {kd : Int32} {lab : Nat → Int32} {sp : List SPN} {bk : List BLK} {lt : List PT} (h : SRep O M s kd lab sp bk lt) : BK M s bk.length ∧ ∀ i x, bk[i]? = some x → BRep O M s (bkA M s i) x.1 x.2 := by
  obtain ⟨h1, h2, h3, h4⟩ := h.2.2.2.1.2
  refine ⟨⟨h.2.2.2.1.1, h1, fun i hi => ?_⟩, fun i x hx => ?_⟩
  · obtain ⟨b, hb, hr⟩ := h3 i _ (List.getElem?_eq_getElem hi)
    have : bkA M s i = b := by unfold bkA; rw [hb]; rfl
    rw [this]
    exact ⟨hb, hr.K⟩
  · obtain ⟨b, hb, hr⟩ := h3 i x hx
    have : bkA M s i = b := by unfold bkA; rw [hb]; rfl
    rw [this]; exact hr
/-- a new block takes the first spare place -/
theorem SRep.push {O : GH} {M U : HM} {s b : Nat} {kd : Int32} {lab : Nat → Int32} {sp : List SPN} {bk : List BLK} {lt : List PT} (h : SRep O M s kd lab sp bk lt) (hX : ArX M U (bks M s) (bks M s)) (hl : bk.length < 300) (hB : BRep O M s b [] zf) (hg : ∀ i, i ≠ bk.length → aR U (bks M s) i = aR M (bks M s) i) (hb : aR U (bks M s) bk.length = some b) (hn : ∀ i, i < 300 → i ≠ bk.length → aR M (bks M s) i ≠ some b) :
    SRep O (sI U 133 s (nI (bk.length + 1))) s kd lab sp (bk ++ [([], zf)]) lt ∧ Fr (Ss s) O O M (sI U 133 s (nI (bk.length + 1))) ∧ aR (sI U 133 s (nI (bk.length + 1))) (bks (sI U 133 s (nI (bk.length + 1))) s) bk.length = some b := by
  have hr := h.2.2.2.1.2.push (g' := aR U (bks M s)) (P' := fun b => ∃ l f, BRep O M s b l f) (R' := fun b x => BRep O M s b x.1 x.2) (y := ([], zf)) hl hg hb hn (fun _ _ q => q) (fun _ _ _ _ q => q) ⟨_, _, hB⟩ hB
  have := h.r133 (sp' := sp) (lt' := lt) hX hr
  rw [List.length_append] at this
  refine ⟨this.1, this.2, ?_⟩
  have e : bks (sI U 133 s (nI (bk.length + 1))) s = bks M s := by
    show ((mR U) 132 s).getD 0 = _
    rw [hX.2.2.2.2.1]; rfl
  rw [e]
  exact hb
theorem i10 : ¬ (1 : Int32) = 0 := by decide
def csX4_openBlock : CS := (cs_c 1 120 1 0 sp_X0_init (cs_c 0 121 1 0 sp_X0_clear cs_0))
theorem csoX4_openBlock : ∀ op x na cl sp, csX4_openBlock op x = some (na, cl, sp) → CallOK 4 2 43 op x na cl sp := (cs_c_ok (caX4_openBlock_120 okX0_init) (cs_c_ok (caX4_openBlock_121 okX0_clear) cs_0_ok))
theorem xcX4_openBlock : (∀ (Q : QT) (G : GT) (pc : Nat) (L : LV) (a0 : Value) (r : List Value) (M : HM) (k n : Nat), ex_i 4 2 3 false csX4_openBlock Q G (.invokespecial 120) pc L (a0 :: r) M k n = (e_rm r ∧ e_rc M 0 [a0] ∧ sp_X0_init [a0] M k n (fun v M' k' n' => G (pc + 3) L (v.toList ++ r) M' k' n'))) ∧ (∀ (Q : QT) (G : GT) (pc : Nat) (L : LV) (a0 : Value) (r : List Value) (M : HM) (k n : Nat), ex_i 4 2 3 false csX4_openBlock Q G (.invokevirtual 121) pc L (a0 :: r) M k n = (e_rm r ∧ e_rc M 0 [a0] ∧ sp_X0_clear [a0] M k n (fun v M' k' n' => G (pc + 3) L (v.toList ++ r) M' k' n'))) := ⟨(fun _ _ _ _ _ _ _ _ _ => xv1_1 rfl), (fun _ _ _ _ _ _ _ _ _ => xv0_1 rfl)⟩
def sp_X4_openBlock : SP := fun as M k n Q => match as with
  | [.ref s] => ∃ O kd lab sp bk lt, SRep O M s kd lab sp bk lt ∧ bk.length < 300 ∧ 2 ≤ k ∧ 240 ≤ n ∧ ∀ O' M' b, SRep O' M' s kd lab sp (bk ++ [([], zf)]) lt → aR M' (bks M' s) bk.length = some b → Fr (Ss s) O O' M M' → Q (some (.ref b)) M' (k - 2) (n - 240)
  | _ => False
set_option maxRecDepth 20000 in
theorem okX4_openBlock : OkX4_openBlock sp_X4_openBlock := by
  refine inX4_openBlock csoX4_openBlock ?_
  intro as M k n Q hsp
  unfold sp_X4_openBlock at hsp
  split at hsp
  rotate_left
  · exact hsp.elim
  rename_i s
  obtain ⟨O, kd, lab, sp, bk, lt, hS, h300, hk, hn, hq⟩ := hsp
  obtain ⟨⟨h0, -, -, ⟨h1, h2, h3⟩, -⟩, hO⟩ := id hS.1
  have hc := hS.2.2.2.1.1
  have e1 : ¬ nI bk.length < 0 := nI_pos (by omega)
  have e2 : nI bk.length < 300 := nI_lt (b := 300) h300 (by decide)
  have e3 : (nI bk.length).toNatClampNeg = bk.length := nI_clamp (by omega)
  have e4 : vp_in (nI bk.length) 300 := vp_in_nI h300 (by decide)
  refine ⟨2, 240, hk, hn, Nat.le_of_ble_eq_true rfl, fun G hG => ?_⟩
  cases hg : aR M (bks M s) bk.length with
  | none =>
    refine e_g2 hG [(42, [0])] 80 ?_
    simp only [e_wp_s, Option.getD_some, Option.isSome_some, Option.isSome_none, xis0, xis1, xis2, xis3, xis4, e_ks, lk_k, lk_c, List.lookup_nil, gt_c, vi_i, k1_n, k1_c, k2_n, k2_c, ar_n, ar_c, pk_n, pk_c, rm_0, rm_1, rm_2, rm_3, rm_4, rm_5, rc_9, rcs, fvs, rf_s, rf_n, isI_i, isL_l, isR_r, isR_n, isR_q, ct_i, ct_l, ct_r, ct_n, ct_q, tFs, tCs, tKs, tJs, tSs, e_nf, lgs, ↓reduceIte, true_and, and_true, false_and, and_false, or_true, true_or, false_or, or_false, Nat.reduceAdd, Nat.reduceEqDiff, Nat.reduceDiv, Nat.reduceLT, Nat.reduceLeDiff, Nat.zero_add, reduceCtorEq, Bool.false_eq_true, Option.toList_some, Option.toList_none, List.cons_append, List.nil_append, not_true_eq_false, not_false_eq_true, Nat.sub_zero, dsX4_openBlock, jsX4_openBlock, xcX4_openBlock, h0, h1, h2, h3, hc, e1, e2, e3, e4, hg, ofs, ↓sp_X0_init, hmK, hmN, hmI, hmL, hmR, haI, haL, haR]
    intro q hq0
    refine ⟨by decide, by decide, fun y hy => ?_⟩
    obtain ⟨hB, hF⟩ := newB (O := O) (s := s) hq0 hy
    have hS2 := hS.frm hF (fun _ _ _ z => z)
    have hgr : ∀ i, i < 300 → aR (inB (nO M 0 q) q y) (bks (inB (nO M 0 q) q y) s) i ≠ some q := by
      intro i hi e
      have h5 := (hS.base hF (fun _ _ _ z => z)).2.2.2.2.2
      rw [h5.1, h5.2] at e
      obtain ⟨l, f, hB2⟩ := hS.2.2.2.1.2.2.1 i q hi e
      have := hB2.K
      rw [hq0] at this
      cases this
    generalize inB (nO M 0 q) q y = X at *
    generalize O2 O s q y = O3 at *
    obtain ⟨⟨x0, -, -, ⟨x1, x2, x3⟩, -⟩, xO⟩ := id hS2.1
    have xc := hS2.2.2.2.1.1
    have xb := hB.K
    have xn : ¬ s = bks X s := fun e => by rw [← e, x0] at x2; cases x2
    refine e_g2 hG [] 80 ?_
    simp only [e_wp_s, Option.getD_some, Option.isSome_some, Option.isSome_none, xis0, xis1, xis2, xis3, xis4, e_ks, lk_k, lk_c, List.lookup_nil, gt_c, vi_i, k1_n, k1_c, k2_n, k2_c, ar_n, ar_c, pk_n, pk_c, rm_0, rm_1, rm_2, rm_3, rm_4, rm_5, rc_9, rcs, fvs, rf_s, rf_n, isI_i, isL_l, isR_r, isR_n, isR_q, ct_i, ct_l, ct_r, ct_n, ct_q, tFs, tCs, tKs, tJs, tSs, e_nf, lgs, ↓reduceIte, true_and, and_true, false_and, and_false, or_true, true_or, false_or, or_false, Nat.reduceAdd, Nat.reduceEqDiff, Nat.reduceDiv, Nat.reduceLT, Nat.reduceLeDiff, Nat.zero_add, reduceCtorEq, Bool.false_eq_true, Option.toList_some, Option.toList_none, List.cons_append, List.nil_append, not_true_eq_false, not_false_eq_true, Nat.sub_zero, dsX4_openBlock, jsX4_openBlock, xcX4_openBlock, x0, x1, x2, x3, xc, xb, e1, e2, e3, e4, ofs, hmK, hmN, hmI, hmL, hmR, haI, haL, haR, nI_1]
    have hp := hS2.push (U := tR X (bks X s) bk.length (some q)) (b := q) (ArX.rf.tR (Or.inl rfl)) h300 hB (fun i hi => by simp only [haR, hi, and_false, if_false]) (by simp only [haR, and_self, if_true]) (fun i hi _ => hgr i hi)
    refine ⟨rfl, ?_⟩
    exact hq _ _ _ hp.1 hp.2.2 ((hF.mono (fun _ _ z => z.elim)).tr hp.2.1)
  | some b =>
    obtain ⟨l, f, hB⟩ := hS.2.2.2.1.2.2.1 _ b h300 hg
    have hbk := hB.K
    refine e_g2 hG [(60, [0, 1])] 80 ?_
    simp only [e_wp_s, Option.getD_some, Option.isSome_some, Option.isSome_none, xis0, xis1, xis2, xis3, xis4, e_ks, lk_k, lk_c, List.lookup_nil, gt_c, vi_i, k1_n, k1_c, k2_n, k2_c, ar_n, ar_c, pk_n, pk_c, rm_0, rm_1, rm_2, rm_3, rm_4, rm_5, rc_9, rcs, fvs, rf_s, rf_n, isI_i, isL_l, isR_r, isR_n, isR_q, ct_i, ct_l, ct_r, ct_n, ct_q, tFs, tCs, tKs, tJs, tSs, e_nf, lgs, ↓reduceIte, true_and, and_true, false_and, and_false, or_true, true_or, false_or, or_false, Nat.reduceAdd, Nat.reduceEqDiff, Nat.reduceDiv, Nat.reduceLT, Nat.reduceLeDiff, Nat.zero_add, reduceCtorEq, Bool.false_eq_true, Option.toList_some, Option.toList_none, List.cons_append, List.nil_append, not_true_eq_false, not_false_eq_true, Nat.sub_zero, dsX4_openBlock, jsX4_openBlock, xcX4_openBlock, h0, h1, h2, h3, hc, e1, e2, e3, e4, hg, hbk, ofs, hmK, hmN, hmI, hmL, hmR, haI, haL, haR]
    refine clA hB (fun X hB2 hF => ?_)
    have hS2 := hS.blk h300 hg hF hB2
    rw [List.set_eq_of_length_le (Nat.le_refl _)] at hS2
    have hbs : b ≠ s := fun e => by rw [e, h0] at hbk; cases hbk
    have h5 := (hS.base hF (fun a ha _ hs => hs.elim (fun e => ha (by rw [e]; exact hbk)) (fun e => hbs (congrArg Prod.snd e).symm))).2.2.2.2.2
    obtain ⟨⟨x0, -, -, ⟨x1, x2, x3⟩, -⟩, xO⟩ := id hS2.1
    have xc := hS2.2.2.2.1.1
    have xb := hB2.K
    refine e_g2 hG [] 80 ?_
    simp only [e_wp_s, Option.getD_some, Option.isSome_some, Option.isSome_none, xis0, xis1, xis2, xis3, xis4, e_ks, lk_k, lk_c, List.lookup_nil, gt_c, vi_i, k1_n, k1_c, k2_n, k2_c, ar_n, ar_c, pk_n, pk_c, rm_0, rm_1, rm_2, rm_3, rm_4, rm_5, rc_9, rcs, fvs, rf_s, rf_n, isI_i, isL_l, isR_r, isR_n, isR_q, ct_i, ct_l, ct_r, ct_n, ct_q, tFs, tCs, tKs, tJs, tSs, e_nf, lgs, ↓reduceIte, true_and, and_true, false_and, and_false, or_true, true_or, false_or, or_false, Nat.reduceAdd, Nat.reduceEqDiff, Nat.reduceDiv, Nat.reduceLT, Nat.reduceLeDiff, Nat.zero_add, reduceCtorEq, Bool.false_eq_true, Option.toList_some, Option.toList_none, List.cons_append, List.nil_append, not_true_eq_false, not_false_eq_true, Nat.sub_zero, dsX4_openBlock, jsX4_openBlock, xcX4_openBlock, x0, x1, x2, x3, xc, xb, hmK, hmN, hmI, hmL, hmR, haI, haL, haR, nI_1]
    have hp := hS2.push (U := X) (b := b) ArX.rf h300 hB2 (fun i hi => rfl) (by rw [h5.1, h5.2]; exact hg) (fun i hi hne e => hne (by rw [h5.1, h5.2] at e; exact hS.2.2.2.1.2.2.2.2 i _ b hi h300 e hg))
    exact hq _ _ _ hp.1 hp.2.2 ((hF.b2s (by rw [hB.2.1.1])).tr hp.2.1)
theorem tk_more {O : GH} {M : HM} {s b : Nat} {l : List PT} {f : Nat → Int32} (h : BRep O M s b l f) : (mI M 4 b < 16 ∧ ¬ 0 < mI M 2 b) ↔ (l.length < 16 ∧ tcnt f 226 = 0) := by
  obtain ⟨-, -, -, -, -, -, h7, -, ⟨h9, h9'⟩, -⟩ := h
  have := tcnt_le f 226
  rw [h7, h9, show (16 : Int32) = nI 16 from rfl, show (0 : Int32) = nI 0 from rfl, nI_ltI (by omega) (by decide), nI_ltI (by decide) (by omega)]
  omega
theorem BRep.z {O : GH} {M : HM} {s b : Nat} {l : List PT} {f : Nat → Int32} (h : BRep O M s b l f) (h0 : tcnt f 226 = 0) : f = zf := by
  funext k
  by_cases c : k < 226
  · exact tcnt_eq0 f 226 h0 k c
  · exact h.2.2.2.2.1 k (by omega)
theorem set_last {α : Type} (l : List α) (a c : α) : (l ++ [a]).set l.length c = l ++ [c] := by simp
def csX4_appendMain : CS := (cs_c 0 71 2 4 sp_X4_blockAt (cs_c 0 110 1 0 sp_X0_takesMore (cs_c 0 113 1 4 sp_X4_openBlock (cs_c 0 117 3 0 sp_X0_append cs_0))))
theorem csoX4_appendMain : ∀ op x na cl sp, csX4_appendMain op x = some (na, cl, sp) → CallOK 4 4 92 op x na cl sp := (cs_c_ok (caX4_appendMain_71 okX4_blockAt) (cs_c_ok (caX4_appendMain_110 okX0_takesMore) (cs_c_ok (caX4_appendMain_113 okX4_openBlock) (cs_c_ok (caX4_appendMain_117 okX0_append) cs_0_ok))))
theorem xcX4_appendMain : (∀ (Q : QT) (G : GT) (pc : Nat) (L : LV) (a0 a1 : Value) (r : List Value) (M : HM) (k n : Nat), ex_i 4 5 0 false csX4_appendMain Q G (.invokevirtual 71) pc L (a1 :: a0 :: r) M k n = (e_rm r ∧ e_rc M 4 [a0, a1] ∧ sp_X4_blockAt [a0, a1] M k n (fun v M' k' n' => G (pc + 3) L (v.toList ++ r) M' k' n'))) ∧ (∀ (Q : QT) (G : GT) (pc : Nat) (L : LV) (a0 : Value) (r : List Value) (M : HM) (k n : Nat), ex_i 4 5 0 false csX4_appendMain Q G (.invokevirtual 110) pc L (a0 :: r) M k n = (e_rm r ∧ e_rc M 0 [a0] ∧ sp_X0_takesMore [a0] M k n (fun v M' k' n' => G (pc + 3) L (v.toList ++ r) M' k' n'))) ∧ (∀ (Q : QT) (G : GT) (pc : Nat) (L : LV) (a0 : Value) (r : List Value) (M : HM) (k n : Nat), ex_i 4 5 0 false csX4_appendMain Q G (.invokevirtual 113) pc L (a0 :: r) M k n = (e_rm r ∧ e_rc M 4 [a0] ∧ sp_X4_openBlock [a0] M k n (fun v M' k' n' => G (pc + 3) L (v.toList ++ r) M' k' n'))) ∧ (∀ (Q : QT) (G : GT) (pc : Nat) (L : LV) (a0 a1 a2 : Value) (r : List Value) (M : HM) (k n : Nat), ex_i 4 5 0 false csX4_appendMain Q G (.invokevirtual 117) pc L (a2 :: a1 :: a0 :: r) M k n = (e_rm r ∧ e_rc M 0 [a0, a1, a2] ∧ sp_X0_append [a0, a1, a2] M k n (fun v M' k' n' => G (pc + 3) L (v.toList ++ r) M' k' n'))) := ⟨(fun _ _ _ _ _ _ _ _ _ _ => xv0_2 rfl), (fun _ _ _ _ _ _ _ _ _ => xv0_1 rfl), (fun _ _ _ _ _ _ _ _ _ => xv0_1 rfl), (fun _ _ _ _ _ _ _ _ _ _ _ => xv0_3 rfl)⟩
def sp_X4_appendMain : SP := fun as M k n Q => match as with
  | [.ref s, .int t, .long v] => ∃ O kd lab sp bk lt, SRep O M s kd lab sp bk lt ∧ (opb bk = true → bk.length < 300 ∧ 2 ≤ k ∧ 240 ≤ n) ∧ ∀ O' M', SRep O' M' s kd lab sp (apM bk (t, v)) lt → Fr (Ss s) O O' M M' → Q none M' (k - if opb bk then 2 else 0) (n - if opb bk then 240 else 0)
  | _ => False
theorem okX4_appendMain : OkX4_appendMain sp_X4_appendMain := by
  refine inX4_appendMain csoX4_appendMain ?_
  intro as M k n Q hsp
  unfold sp_X4_appendMain at hsp
  split at hsp
  rotate_left
  · exact hsp.elim
  rename_i s t v
  obtain ⟨O, kd, lab, sp, bk, lt, hS, hr, hq⟩ := hsp
  have h0 := hS.1.1.1
  have hSR := hS.1.1
  by_cases ho : opb bk = true
  · obtain ⟨h300, hk, hn⟩ := hr ho
    rw [if_pos ho, if_pos ho] at hq
    refine ⟨2, 240, hk, hn, Nat.le_of_ble_eq_true rfl, fun G hG => ?_⟩
    have main : G 25 [(0, .ref s), (1, .int t), (2, .long v)] [] M 2 240 := by
      refine e_g2 hG [(29, [0, 1, 2])] 40 ?_
      simp only [e_wp_s, Option.getD_some, Option.isSome_some, Option.isSome_none, xis0, xis1, xis2, xis3, xis4, e_ks, lk_k, lk_c, List.lookup_nil, gt_c, vi_i, k1_n, k1_c, k2_n, k2_c, ar_n, ar_c, pk_n, pk_c, rm_0, rm_1, rm_2, rm_3, rm_4, rm_5, rc_9, rcs, fvs, rf_s, rf_n, isI_i, isL_l, isR_r, isR_n, isR_q, ct_i, ct_l, ct_r, ct_n, ct_q, tFs, tCs, tKs, tJs, tSs, e_nf, lgs, ↓reduceIte, true_and, and_true, false_and, and_false, or_true, true_or, false_or, or_false, Nat.reduceAdd, Nat.reduceEqDiff, Nat.reduceDiv, Nat.reduceLT, Nat.reduceLeDiff, Nat.zero_add, reduceCtorEq, Bool.false_eq_true, Option.toList_some, Option.toList_none, List.cons_append, List.nil_append, not_true_eq_false, not_false_eq_true, Nat.sub_zero, dsX4_appendMain, jsX4_appendMain, xcX4_appendMain, h0]
      refine ⟨O, kd, lab, sp, bk, lt, hS, h300, Nat.le_refl _, Nat.le_refl _, fun O1 M1 b hS1 hb hF1 => ?_⟩
      have hB1 : BRep O1 M1 s b [] zf := by
        obtain ⟨b', -, hb', hB', -⟩ := hS1.bAt (i := bk.length) (x := ([], zf)) (by simp)
        rw [hb] at hb'
        cases hb'
        exact hB'
      have hk1 := hB1.K
      refine e_g2 hG [(43, [])] 40 ?_
      simp only [e_wp_s, Option.getD_some, Option.isSome_some, Option.isSome_none, xis0, xis1, xis2, xis3, xis4, e_ks, lk_k, lk_c, List.lookup_nil, gt_c, vi_i, k1_n, k1_c, k2_n, k2_c, ar_n, ar_c, pk_n, pk_c, rm_0, rm_1, rm_2, rm_3, rm_4, rm_5, rc_9, rcs, fvs, rf_s, rf_n, isI_i, isL_l, isR_r, isR_n, isR_q, ct_i, ct_l, ct_r, ct_n, ct_q, tFs, tCs, tKs, tJs, tSs, e_nf, lgs, ↓reduceIte, true_and, and_true, false_and, and_false, or_true, true_or, false_or, or_false, Nat.reduceAdd, Nat.reduceEqDiff, Nat.reduceDiv, Nat.reduceLT, Nat.reduceLeDiff, Nat.zero_add, reduceCtorEq, Bool.false_eq_true, Option.toList_some, Option.toList_none, List.cons_append, List.nil_append, not_true_eq_false, not_false_eq_true, Nat.sub_zero, dsX4_appendMain, jsX4_appendMain, xcX4_appendMain, hk1]
      refine apF hB1 (by decide) (fun M2 hB2 hF2 => ?_)
      have hS2 := hS1.blk h300 hb hF2 hB2
      rw [set_last] at hS2
      refine e_g2 hG [] 40 ?_
      simp only [e_wp_s, Option.getD_some, Option.isSome_some, Option.isSome_none, xis0, xis1, xis2, xis3, xis4, e_ks, lk_k, lk_c, List.lookup_nil, gt_c, vi_i, k1_n, k1_c, k2_n, k2_c, ar_n, ar_c, pk_n, pk_c, rm_0, rm_1, rm_2, rm_3, rm_4, rm_5, rc_9, rcs, fvs, rf_s, rf_n, isI_i, isL_l, isR_r, isR_n, isR_q, ct_i, ct_l, ct_r, ct_n, ct_q, tFs, tCs, tKs, tJs, tSs, e_nf, lgs, ↓reduceIte, true_and, and_true, false_and, and_false, or_true, true_or, false_or, or_false, Nat.reduceAdd, Nat.reduceEqDiff, Nat.reduceDiv, Nat.reduceLT, Nat.reduceLeDiff, Nat.zero_add, reduceCtorEq, Bool.false_eq_true, Option.toList_some, Option.toList_none, List.cons_append, List.nil_append, not_true_eq_false, not_false_eq_true, Nat.sub_zero, dsX4_appendMain, jsX4_appendMain, xcX4_appendMain]
      exact hq O1 M2 (by rw [apM_open _ ho]; exact hS2) (hF1.tr (hF2.b2s (by rw [hB1.2.1.1])))
    rcases nil_snoc bk with rfl | ⟨l, x, rfl⟩
    · have f0 : bkF M s (mI M 133 s - 1) = none := hS.bNo (Or.inl (by rw [hS.2.2.2.1.1]; decide))
      refine e_g2 hG [(25, [0, 1, 2])] 40 ?_
      simp only [e_wp_s, Option.getD_some, Option.isSome_some, Option.isSome_none, xis0, xis1, xis2, xis3, xis4, e_ks, lk_k, lk_c, List.lookup_nil, gt_c, vi_i, k1_n, k1_c, k2_n, k2_c, ar_n, ar_c, pk_n, pk_c, rm_0, rm_1, rm_2, rm_3, rm_4, rm_5, rc_9, rcs, fvs, rf_s, rf_n, isI_i, isL_l, isR_r, isR_n, isR_q, ct_i, ct_l, ct_r, ct_n, ct_q, tFs, tCs, tKs, tJs, tSs, e_nf, lgs, ↓reduceIte, true_and, and_true, false_and, and_false, or_true, true_or, false_or, or_false, Nat.reduceAdd, Nat.reduceEqDiff, Nat.reduceDiv, Nat.reduceLT, Nat.reduceLeDiff, Nat.zero_add, reduceCtorEq, Bool.false_eq_true, Option.toList_some, Option.toList_none, List.cons_append, List.nil_append, not_true_eq_false, not_false_eq_true, Nat.sub_zero, dsX4_appendMain, jsX4_appendMain, xcX4_appendMain, h0, hSR, f0, ↓sp_X4_blockAt]
      exact main
    · obtain ⟨b, hb, hb2, hB, hi⟩ := hS.bAt (i := l.length) (x := x) (by simp)
      have f0 : bkF M s (mI M 133 s - 1) = some b := by
        rw [hS.2.2.2.1.1, List.length_append]
        show bkF M s (nI (l.length + 1) - 1) = _
        rw [nI_pred]; exact hb
      have t0 : ¬ (mI M 4 b < 16 ∧ ¬ 0 < mI M 2 b) := fun e => by
        have e := (tk_more hB).mp e
        rw [opb_snoc] at ho
        simp [e.1, e.2] at ho
      have hk0 := hB.K
      refine e_g2 hG [(25, [0, 1, 2])] 40 ?_
      simp only [e_wp_s, Option.getD_some, Option.isSome_some, Option.isSome_none, xis0, xis1, xis2, xis3, xis4, e_ks, lk_k, lk_c, List.lookup_nil, gt_c, vi_i, k1_n, k1_c, k2_n, k2_c, ar_n, ar_c, pk_n, pk_c, rm_0, rm_1, rm_2, rm_3, rm_4, rm_5, rc_9, rcs, fvs, rf_s, rf_n, isI_i, isL_l, isR_r, isR_n, isR_q, ct_i, ct_l, ct_r, ct_n, ct_q, tFs, tCs, tKs, tJs, tSs, e_nf, lgs, ↓reduceIte, true_and, and_true, false_and, and_false, or_true, true_or, false_or, or_false, Nat.reduceAdd, Nat.reduceEqDiff, Nat.reduceDiv, Nat.reduceLT, Nat.reduceLeDiff, Nat.zero_add, reduceCtorEq, Bool.false_eq_true, Option.toList_some, Option.toList_none, List.cons_append, List.nil_append, not_true_eq_false, not_false_eq_true, Nat.sub_zero, dsX4_appendMain, jsX4_appendMain, xcX4_appendMain, h0, hSR, f0, hk0, t0, ↓sp_X4_blockAt, ↓sp_X0_takesMore]
      exact main
  · rcases nil_snoc bk with rfl | ⟨l, x, rfl⟩
    · exact absurd rfl ho
    · obtain ⟨b, hb, hb2, hB, hi⟩ := hS.bAt (i := l.length) (x := x) (by simp)
      have f0 : bkF M s (mI M 133 s - 1) = some b := by
        rw [hS.2.2.2.1.1, List.length_append]
        show bkF M s (nI (l.length + 1) - 1) = _
        rw [nI_pred]; exact hb
      have t1 : x.1.length < 16 ∧ tcnt x.2 226 = 0 := by
        rw [opb_snoc] at ho
        simpa using ho
      have t0 := (tk_more hB).mpr t1
      have hz := hB.z t1.2
      have hk0 := hB.K
      rw [if_neg ho, if_neg ho] at hq
      refine ⟨0, 0, Nat.zero_le _, Nat.zero_le _, Nat.le_of_ble_eq_true rfl, fun G hG => ?_⟩
      refine e_g2 hG [(43, [])] 40 ?_
      simp only [e_wp_s, Option.getD_some, Option.isSome_some, Option.isSome_none, xis0, xis1, xis2, xis3, xis4, e_ks, lk_k, lk_c, List.lookup_nil, gt_c, vi_i, k1_n, k1_c, k2_n, k2_c, ar_n, ar_c, pk_n, pk_c, rm_0, rm_1, rm_2, rm_3, rm_4, rm_5, rc_9, rcs, fvs, rf_s, rf_n, isI_i, isL_l, isR_r, isR_n, isR_q, ct_i, ct_l, ct_r, ct_n, ct_q, tFs, tCs, tKs, tJs, tSs, e_nf, lgs, ↓reduceIte, true_and, and_true, false_and, and_false, or_true, true_or, false_or, or_false, Nat.reduceAdd, Nat.reduceEqDiff, Nat.reduceDiv, Nat.reduceLT, Nat.reduceLeDiff, Nat.zero_add, reduceCtorEq, Bool.false_eq_true, Option.toList_some, Option.toList_none, List.cons_append, List.nil_append, not_true_eq_false, not_false_eq_true, Nat.sub_zero, dsX4_appendMain, jsX4_appendMain, xcX4_appendMain, h0, hSR, f0, hk0, t0, i10, ↓sp_X4_blockAt, ↓sp_X0_takesMore]
      have hB' := hB
      rw [hz] at hB'
      refine apF hB' t1.1 (fun M2 hB2 hF2 => ?_)
      have hS2 := hS.blk hi hb2 hF2 hB2
      rw [set_last, ← hz] at hS2
      refine e_g2 hG [] 40 ?_
      simp only [e_wp_s, Option.getD_some, Option.isSome_some, Option.isSome_none, xis0, xis1, xis2, xis3, xis4, e_ks, lk_k, lk_c, List.lookup_nil, gt_c, vi_i, k1_n, k1_c, k2_n, k2_c, ar_n, ar_c, pk_n, pk_c, rm_0, rm_1, rm_2, rm_3, rm_4, rm_5, rc_9, rcs, fvs, rf_s, rf_n, isI_i, isL_l, isR_r, isR_n, isR_q, ct_i, ct_l, ct_r, ct_n, ct_q, tFs, tCs, tKs, tJs, tSs, e_nf, lgs, ↓reduceIte, true_and, and_true, false_and, and_false, or_true, true_or, false_or, or_false, Nat.reduceAdd, Nat.reduceEqDiff, Nat.reduceDiv, Nat.reduceLT, Nat.reduceLeDiff, Nat.zero_add, reduceCtorEq, Bool.false_eq_true, Option.toList_some, Option.toList_none, List.cons_append, List.nil_append, not_true_eq_false, not_false_eq_true, Nat.sub_zero, dsX4_appendMain, jsX4_appendMain, xcX4_appendMain]
      exact hq O M2 (by rw [apM_more _ ho]; exact hS2) (hF2.b2s (by rw [hB.2.1.1]))
