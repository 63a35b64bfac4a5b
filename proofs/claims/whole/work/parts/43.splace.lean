/-! Series: place, dropLate -/
theorem SRep.sAt {O : GH} {M : HM} {s i : Nat} {kd : Int32} {lab : Nat → Int32} {sp : List SPN} {bk : List BLK} {lt : List PT} {x : SPN} (h : SRep O M s kd lab sp bk lt) (hx : sp[i]? = some x) : ∃ p, spF M s (nI i) = some p ∧ aR M (sps M s) i = some p ∧ SPK M p x ∧ mK M p = 6 ∧ i < 60 := by
  obtain ⟨h1, h2, h3, h4⟩ := h.2.2.1.2
  obtain ⟨b, hb, hr⟩ := h3 i x hx
  have hi : i < sp.length := (List.getElem?_eq_some_iff.mp hx).1
  refine ⟨b, ?_, hb, hr, (h2 i b (by omega) hb).1, by omega⟩
  unfold spF
  rw [h.2.2.1.1, if_pos ⟨nI_pos (by omega), nI_lt hi (by omega), nI_lt (b := 60) (by omega) (by decide)⟩, nI_clamp (by omega)]
  exact hb
theorem SRep.sNo {O : GH} {M : HM} {s : Nat} {kd : Int32} {lab : Nat → Int32} {sp : List SPN} {bk : List BLK} {lt : List PT} {v : Int32} (h : SRep O M s kd lab sp bk lt) (hv : v < 0 ∨ ∃ i, v = nI i ∧ i < 2 ^ 31 ∧ sp.length ≤ i) : spF M s v = none := by
  unfold spF
  rw [if_neg]
  rintro ⟨h1, h2, h3⟩
  rcases hv with hv | ⟨i, rfl, hi, hl⟩
  · exact h1 hv
  · rw [h.2.2.1.1] at h2
    exact nI_nlt hl hi h2
theorem SRep.spL {O : GH} {M : HM} {s : Nat} {kd : Int32} {lab : Nat → Int32} {sp : List SPN} {bk : List BLK} {lt : List PT} (h : SRep O M s kd lab sp bk lt) : (sp = [] ∧ spF M s (mI M 131 s - 1) = none) ∨ ∃ l x p, sp = l ++ [x] ∧ spF M s (mI M 131 s - 1) = some p ∧ aR M (sps M s) l.length = some p ∧ SPK M p x ∧ mK M p = 6 ∧ l.length < 60 := by
  rcases nil_snoc sp with rfl | ⟨l, x, rfl⟩
  · exact Or.inl ⟨rfl, h.sNo (Or.inl (by rw [h.2.2.1.1]; decide))⟩
  · obtain ⟨p, hp, hp2, hS, hk, hi⟩ := h.sAt (i := l.length) (x := x) (by simp)
    refine Or.inr ⟨l, x, p, rfl, ?_, hp2, hS, hk, hi⟩
    rw [h.2.2.1.1, List.length_append]
    show spF M s (nI (l.length + 1) - 1) = _
    rw [nI_pred]; exact hp
theorem SRep.se {O : GH} {M : HM} {s : Nat} {kd : Int32} {lab : Nat → Int32} {sp : List SPN} {bk : List BLK} {lt : List PT} (h : SRep O M s kd lab sp bk lt) : seF M s = sEnd sp ∧ ∀ p, spF M s (mI M 131 s - 1) = some p → mK M p = 6 := by
  rcases h.spL with ⟨rfl, h1⟩ | ⟨l, x, p, rfl, h1, h2, h3, h4, h5⟩
  · refine ⟨?_, fun p hp => by rw [h1] at hp; cases hp⟩
    unfold seF; rw [h1]; rfl
  · refine ⟨?_, fun p' hp => by rw [h1] at hp; cases hp; exact h4⟩
    unfold seF sEnd
    rw [h1, List.getLast?_concat]
    exact h3.2.1
theorem SRep.bL {O : GH} {M : HM} {s : Nat} {kd : Int32} {lab : Nat → Int32} {sp : List SPN} {bk : List BLK} {lt : List PT} (h : SRep O M s kd lab sp bk lt) : (bk = [] ∧ bkF M s (mI M 133 s - 1) = none) ∨ ∃ l x b, bk = l ++ [x] ∧ bkF M s (mI M 133 s - 1) = some b ∧ BRep O M s b x.1 x.2 := by
  rcases nil_snoc bk with rfl | ⟨l, x, rfl⟩
  · exact Or.inl ⟨rfl, h.bNo (Or.inl (by rw [h.2.2.2.1.1]; decide))⟩
  · obtain ⟨b, hb, hb2, hB, hi⟩ := h.bAt (i := l.length) (x := x) (by simp)
    refine Or.inr ⟨l, x, b, rfl, ?_, hB⟩
    rw [h.2.2.2.1.1, List.length_append]
    show bkF M s (nI (l.length + 1) - 1) = _
    rw [nI_pred]; exact hb
theorem SRep.smN {O : GH} {M : HM} {s : Nat} {kd : Int32} {lab : Nat → Int32} {sp : List SPN} {bk : List BLK} {lt : List PT} (h : SRep O M s kd lab sp bk lt) (φ : BLK → Nat) (F : Nat → Int32) (hF : ∀ b x, BRep O M s b x.1 x.2 → F b = nI (φ x)) : sm (fun i => F (bkA M s i)) bk.length = nI (bk.map φ).sum := by
  have key : ∀ c, c ≤ bk.length → sm (fun i => F (bkA M s i)) c = nI ((bk.take c).map φ).sum := by
    intro c
    induction c with
    | zero => intro _; rw [List.take_zero]; rfl
    | succ c ih =>
      intro hc
      have hx : bk[c]? = some bk[c] := List.getElem?_eq_getElem (by omega)
      rw [sm, ih (by omega), hF _ _ (h.BK.2 c _ hx), nI_add, List.take_add_one, hx, List.map_append, List.sum_append]
      simp
  have := key _ (Nat.le_refl _)
  rw [List.take_length] at this
  exact this
theorem mpts_len (bk : List BLK) : (mpts bk).length = (bk.map (fun x => x.1.length)).sum := by
  unfold mpts
  rw [List.length_flatten, List.map_map]; rfl
theorem SRep.mainN {O : GH} {M : HM} {s : Nat} {kd : Int32} {lab : Nat → Int32} {sp : List SPN} {bk : List BLK} {lt : List PT} (h : SRep O M s kd lab sp bk lt) : sm (fun i => mI M 4 (bkA M s i)) bk.length = nI (mpts bk).length := by
  rw [mpts_len]
  exact h.smN _ (fun b => mI M 4 b) (fun b x hb => hb.2.2.2.2.2.2.2.2.1.1)
def tornB (x : BLK) : Bool := decide (tcnt x.2 226 ≠ 0)
def tornN (bk : List BLK) : Nat := (bk.map (fun x => if tornB x then 1 else 0)).sum
def bitsN (bk : List BLK) : Nat := (bk.map (fun x => (eB (enc x.1)).length)).sum
theorem BRep.torn {O : GH} {M : HM} {s b : Nat} {x : BLK} (h : BRep O M s b x.1 x.2) : 0 < mI M 2 b ↔ tornB x = true := by
  have := tcnt_le x.2 226
  rw [h.2.2.2.2.2.2.1, show (0 : Int32) = nI 0 from rfl, nI_ltI (by decide) (by omega)]
  unfold tornB
  rw [decide_eq_true_iff]
  omega
theorem SRep.tornN {O : GH} {M : HM} {s : Nat} {kd : Int32} {lab : Nat → Int32} {sp : List SPN} {bk : List BLK} {lt : List PT} (h : SRep O M s kd lab sp bk lt) : sm (fun i => if 0 < mI M 2 (bkA M s i) then 1 else 0) bk.length = nI (tornN bk) :=
  h.smN (fun x => if tornB x then 1 else 0) (fun b => if 0 < mI M 2 b then 1 else 0) (fun b x hb => by
    by_cases c : tornB x = true
    · show (if 0 < mI M 2 b then (1 : Int32) else 0) = _
      rw [if_pos (hb.torn.mpr c), if_pos c]; rfl
    · show (if 0 < mI M 2 b then (1 : Int32) else 0) = _
      rw [if_neg (fun z => c (hb.torn.mp z)), if_neg c]; rfl)
theorem SRep.bitsN {O : GH} {M : HM} {s : Nat} {kd : Int32} {lab : Nat → Int32} {sp : List SPN} {bk : List BLK} {lt : List PT} (h : SRep O M s kd lab sp bk lt) : sm (fun i => mI M 3 (bkA M s i)) bk.length = nI (bitsN bk) :=
  h.smN (fun x => (eB (enc x.1)).length) (fun b => mI M 3 b) (fun b x hb => hb.2.2.2.2.2.2.2.1)
def csX4_place : CS := (cs_c 2 85 1 9 sp_X6_isTime (cs_c 2 88 2 9 sp_X6_isValueOf (cs_c 0 92 1 4 sp_X4_spansEnd (cs_c 0 71 2 4 sp_X4_blockAt (cs_c 0 99 3 4 sp_X4_placeLate (cs_c 0 103 1 4 sp_X4_mainPoints (cs_c 0 106 3 4 sp_X4_appendMain cs_0)))))))
theorem csoX4_place : ∀ op x na cl sp, csX4_place op x = some (na, cl, sp) → CallOK 4 5 116 op x na cl sp := (cs_c_ok (caX4_place_85 okX6_isTime) (cs_c_ok (caX4_place_88 okX6_isValueOf) (cs_c_ok (caX4_place_92 okX4_spansEnd) (cs_c_ok (caX4_place_71 okX4_blockAt) (cs_c_ok (caX4_place_99 okX4_placeLate) (cs_c_ok (caX4_place_103 okX4_mainPoints) (cs_c_ok (caX4_place_106 okX4_appendMain) cs_0_ok)))))))
theorem xcX4_place : (∀ (Q : QT) (G : GT) (pc : Nat) (L : LV) (a0 : Value) (r : List Value) (M : HM) (k n : Nat), ex_i 4 5 1 false csX4_place Q G (.invokestatic 85) pc L (a0 :: r) M k n = (e_rm r ∧ e_rc M 9 [a0] ∧ sp_X6_isTime [a0] M k n (fun v M' k' n' => G (pc + 3) L (v.toList ++ r) M' k' n'))) ∧ (∀ (Q : QT) (G : GT) (pc : Nat) (L : LV) (a0 a1 : Value) (r : List Value) (M : HM) (k n : Nat), ex_i 4 5 1 false csX4_place Q G (.invokestatic 88) pc L (a1 :: a0 :: r) M k n = (e_rm r ∧ e_rc M 9 [a0, a1] ∧ sp_X6_isValueOf [a0, a1] M k n (fun v M' k' n' => G (pc + 3) L (v.toList ++ r) M' k' n'))) ∧ (∀ (Q : QT) (G : GT) (pc : Nat) (L : LV) (a0 : Value) (r : List Value) (M : HM) (k n : Nat), ex_i 4 5 1 false csX4_place Q G (.invokevirtual 92) pc L (a0 :: r) M k n = (e_rm r ∧ e_rc M 4 [a0] ∧ sp_X4_spansEnd [a0] M k n (fun v M' k' n' => G (pc + 3) L (v.toList ++ r) M' k' n'))) ∧ (∀ (Q : QT) (G : GT) (pc : Nat) (L : LV) (a0 a1 : Value) (r : List Value) (M : HM) (k n : Nat), ex_i 4 5 1 false csX4_place Q G (.invokevirtual 71) pc L (a1 :: a0 :: r) M k n = (e_rm r ∧ e_rc M 4 [a0, a1] ∧ sp_X4_blockAt [a0, a1] M k n (fun v M' k' n' => G (pc + 3) L (v.toList ++ r) M' k' n'))) ∧ (∀ (Q : QT) (G : GT) (pc : Nat) (L : LV) (a0 a1 a2 : Value) (r : List Value) (M : HM) (k n : Nat), ex_i 4 5 1 false csX4_place Q G (.invokevirtual 99) pc L (a2 :: a1 :: a0 :: r) M k n = (e_rm r ∧ e_rc M 4 [a0, a1, a2] ∧ sp_X4_placeLate [a0, a1, a2] M k n (fun v M' k' n' => G (pc + 3) L (v.toList ++ r) M' k' n'))) ∧ (∀ (Q : QT) (G : GT) (pc : Nat) (L : LV) (a0 : Value) (r : List Value) (M : HM) (k n : Nat), ex_i 4 5 1 false csX4_place Q G (.invokevirtual 103) pc L (a0 :: r) M k n = (e_rm r ∧ e_rc M 4 [a0] ∧ sp_X4_mainPoints [a0] M k n (fun v M' k' n' => G (pc + 3) L (v.toList ++ r) M' k' n'))) ∧ (∀ (Q : QT) (G : GT) (pc : Nat) (L : LV) (a0 a1 a2 : Value) (r : List Value) (M : HM) (k n : Nat), ex_i 4 5 1 false csX4_place Q G (.invokevirtual 106) pc L (a2 :: a1 :: a0 :: r) M k n = (e_rm r ∧ e_rc M 4 [a0, a1, a2] ∧ sp_X4_appendMain [a0, a1, a2] M k n (fun v M' k' n' => G (pc + 3) L (v.toList ++ r) M' k' n'))) := ⟨(fun _ _ _ _ _ _ _ _ _ => xv2_1 rfl), (fun _ _ _ _ _ _ _ _ _ _ => xv2_2 rfl), (fun _ _ _ _ _ _ _ _ _ => xv0_1 rfl), (fun _ _ _ _ _ _ _ _ _ _ => xv0_2 rfl), (fun _ _ _ _ _ _ _ _ _ _ _ => xv0_3 rfl), (fun _ _ _ _ _ _ _ _ _ => xv0_1 rfl), (fun _ _ _ _ _ _ _ _ _ _ _ => xv0_3 rfl)⟩
def sp_X4_place : SP := fun as M k n Q => match as with
  | [.ref s, .int t, .long v] => ∃ O kd lab sp bk lt, SRep O M s kd lab sp bk lt ∧ neB bk ∧ (mpts bk).length ≤ 300 ∧ 2 ≤ k ∧ 240 ≤ n ∧ ∀ O' M', SRep O' M' s kd lab sp (plc kd sp bk lt (t, v)).2.1 (plc kd sp bk lt (t, v)).2.2 → Fr (Ss s) O O' M M' → Q (some (.int (plc kd sp bk lt (t, v)).1)) M' (k - 2) (n - 240)
  | _ => False
theorem okX4_place : OkX4_place sp_X4_place := by
  refine inX4_place csoX4_place ?_
  intro as M k n Q hsp
  unfold sp_X4_place at hsp
  split at hsp
  rotate_left
  · exact hsp.elim
  rename_i s t v
  obtain ⟨O, kd, lab, sp, bk, lt, hS, hne, h300, hk, hn, hq⟩ := hsp
  have h0 := hS.1.1.1
  have hSR := hS.1.1
  have hkd := hS.2.1.1
  obtain ⟨hse, hsp6⟩ := hS.se
  unfold plc at hq
  refine ⟨2, 240, hk, hn, Nat.le_of_ble_eq_true rfl, fun G hG => ?_⟩
  by_cases c1 : ¬ t < 0 ∧ ¬ 1000000000 < t
  · by_cases c2 : isVd kd v = 1
    · have c2' : ¬ isVd kd v = 0 := by rw [c2]; decide
      rw [if_neg (fun z => z ⟨c1, c2⟩)] at hq
      by_cases c3 : t < sEnd sp
      · rw [if_pos c3] at hq
        refine e_g2 hG [] 60 ?_
        simp only [e_wp_s, Option.getD_some, Option.isSome_some, Option.isSome_none, xis0, xis1, xis2, xis3, xis4, e_ks, lk_k, lk_c, List.lookup_nil, gt_c, vi_i, k1_n, k1_c, k2_n, k2_c, ar_n, ar_c, pk_n, pk_c, rm_0, rm_1, rm_2, rm_3, rm_4, rm_5, rc_9, rcs, fvs, rf_s, rf_n, isI_i, isL_l, isR_r, isR_n, isR_q, ct_i, ct_l, ct_r, ct_n, ct_q, tFs, tCs, tKs, tJs, tSs, e_nf, lgs, ↓reduceIte, true_and, and_true, false_and, and_false, or_true, true_or, false_or, or_false, Nat.reduceAdd, Nat.reduceEqDiff, Nat.reduceDiv, Nat.reduceLT, Nat.reduceLeDiff, Nat.zero_add, reduceCtorEq, Bool.false_eq_true, Option.toList_some, Option.toList_none, List.cons_append, List.nil_append, not_true_eq_false, not_false_eq_true, Nat.sub_zero, dsX4_place, jsX4_place, xcX4_place, h0, hSR, hkd, c1, c2', hse, c3, i10, ↓sp_X6_isTime, ↓sp_X6_isValueOf, ↓sp_X4_spansEnd]
        exact ⟨hsp6, hq _ _ hS Fr.rf⟩
      · rw [if_neg c3] at hq
        have main : isLt bk t = false → G 64 [(0, .ref s), (1, .int t), (2, .long v)] [] M 2 240 := by
          intro cl
          rw [if_neg (by rw [cl]; decide)] at hq
          have hm := hS.mainN
          by_cases c4 : 300 ≤ (mpts bk).length
          · rw [if_pos c4] at hq
            have e1 : ¬ nI (mpts bk).length < 300 := nI_nlt (b := 300) c4 (by omega)
            refine e_g2 hG [] 60 ?_
            simp only [e_wp_s, Option.getD_some, Option.isSome_some, Option.isSome_none, xis0, xis1, xis2, xis3, xis4, e_ks, lk_k, lk_c, List.lookup_nil, gt_c, vi_i, k1_n, k1_c, k2_n, k2_c, ar_n, ar_c, pk_n, pk_c, rm_0, rm_1, rm_2, rm_3, rm_4, rm_5, rc_9, rcs, fvs, rf_s, rf_n, isI_i, isL_l, isR_r, isR_n, isR_q, ct_i, ct_l, ct_r, ct_n, ct_q, tFs, tCs, tKs, tJs, tSs, e_nf, lgs, ↓reduceIte, true_and, and_true, false_and, and_false, or_true, true_or, false_or, or_false, Nat.reduceAdd, Nat.reduceEqDiff, Nat.reduceDiv, Nat.reduceLT, Nat.reduceLeDiff, Nat.zero_add, reduceCtorEq, Bool.false_eq_true, Option.toList_some, Option.toList_none, List.cons_append, List.nil_append, not_true_eq_false, not_false_eq_true, Nat.sub_zero, dsX4_place, jsX4_place, xcX4_place, h0, hSR, ↓sp_X4_mainPoints]
            refine ⟨_, hS.BK.1, ?_⟩
            rw [hm, if_neg e1]
            exact hq _ _ hS Fr.rf
          · rw [if_neg c4] at hq
            have e1 : nI (mpts bk).length < 300 := nI_lt (b := 300) (by omega) (by decide)
            have hlen := neB_len hne
            refine e_g2 hG [(83, [])] 60 ?_
            simp only [e_wp_s, Option.getD_some, Option.isSome_some, Option.isSome_none, xis0, xis1, xis2, xis3, xis4, e_ks, lk_k, lk_c, List.lookup_nil, gt_c, vi_i, k1_n, k1_c, k2_n, k2_c, ar_n, ar_c, pk_n, pk_c, rm_0, rm_1, rm_2, rm_3, rm_4, rm_5, rc_9, rcs, fvs, rf_s, rf_n, isI_i, isL_l, isR_r, isR_n, isR_q, ct_i, ct_l, ct_r, ct_n, ct_q, tFs, tCs, tKs, tJs, tSs, e_nf, lgs, ↓reduceIte, true_and, and_true, false_and, and_false, or_true, true_or, false_or, or_false, Nat.reduceAdd, Nat.reduceEqDiff, Nat.reduceDiv, Nat.reduceLT, Nat.reduceLeDiff, Nat.zero_add, reduceCtorEq, Bool.false_eq_true, Option.toList_some, Option.toList_none, List.cons_append, List.nil_append, not_true_eq_false, not_false_eq_true, Nat.sub_zero, dsX4_place, jsX4_place, xcX4_place, h0, hSR, ↓sp_X4_mainPoints]
            refine ⟨_, hS.BK.1, ?_⟩
            rw [hm, if_pos e1]
            refine ⟨O, kd, lab, sp, bk, lt, hS, fun _ => ⟨by omega, Nat.le_refl _, Nat.le_refl _⟩, fun O' M' hS' hF => ?_⟩
            refine e_g2 hG [] 60 ?_
            simp only [e_wp_s, Option.getD_some, Option.isSome_some, Option.isSome_none, xis0, xis1, xis2, xis3, xis4, e_ks, lk_k, lk_c, List.lookup_nil, gt_c, vi_i, k1_n, k1_c, k2_n, k2_c, ar_n, ar_c, pk_n, pk_c, rm_0, rm_1, rm_2, rm_3, rm_4, rm_5, rc_9, rcs, fvs, rf_s, rf_n, isI_i, isL_l, isR_r, isR_n, isR_q, ct_i, ct_l, ct_r, ct_n, ct_q, tFs, tCs, tKs, tJs, tSs, e_nf, lgs, ↓reduceIte, true_and, and_true, false_and, and_false, or_true, true_or, false_or, or_false, Nat.reduceAdd, Nat.reduceEqDiff, Nat.reduceDiv, Nat.reduceLT, Nat.reduceLeDiff, Nat.zero_add, reduceCtorEq, Bool.false_eq_true, Option.toList_some, Option.toList_none, List.cons_append, List.nil_append, not_true_eq_false, not_false_eq_true, Nat.sub_zero, dsX4_place, jsX4_place, xcX4_place]
            exact hq _ _ hS' hF
        rcases hS.bL with ⟨rfl, hb⟩ | ⟨l, x, b, rfl, hb, hB⟩
        · refine e_g2 hG [(64, [0, 1, 2])] 60 ?_
          simp only [e_wp_s, Option.getD_some, Option.isSome_some, Option.isSome_none, xis0, xis1, xis2, xis3, xis4, e_ks, lk_k, lk_c, List.lookup_nil, gt_c, vi_i, k1_n, k1_c, k2_n, k2_c, ar_n, ar_c, pk_n, pk_c, rm_0, rm_1, rm_2, rm_3, rm_4, rm_5, rc_9, rcs, fvs, rf_s, rf_n, isI_i, isL_l, isR_r, isR_n, isR_q, ct_i, ct_l, ct_r, ct_n, ct_q, tFs, tCs, tKs, tJs, tSs, e_nf, lgs, ↓reduceIte, true_and, and_true, false_and, and_false, or_true, true_or, false_or, or_false, Nat.reduceAdd, Nat.reduceEqDiff, Nat.reduceDiv, Nat.reduceLT, Nat.reduceLeDiff, Nat.zero_add, reduceCtorEq, Bool.false_eq_true, Option.toList_some, Option.toList_none, List.cons_append, List.nil_append, not_true_eq_false, not_false_eq_true, Nat.sub_zero, dsX4_place, jsX4_place, xcX4_place, h0, hSR, hkd, c1, c2', hse, c3, i10, hb, ↓sp_X6_isTime, ↓sp_X6_isValueOf, ↓sp_X4_spansEnd, ↓sp_X4_blockAt]
          exact ⟨hsp6, main rfl⟩
        · have hk0 := hB.K
          have hlast := (hB.2.2.2.2.2.2.2.2.2.2.2.2.2 (hne x (by simp))).2.1
          have hil : isLt (l ++ [x]) t = decide (¬ eT (enc x.1) < t) := by unfold isLt; rw [List.getLast?_concat]
          by_cases c4 : eT (enc x.1) < t
          · refine e_g2 hG [(64, [0, 1, 2])] 60 ?_
            simp only [e_wp_s, Option.getD_some, Option.isSome_some, Option.isSome_none, xis0, xis1, xis2, xis3, xis4, e_ks, lk_k, lk_c, List.lookup_nil, gt_c, vi_i, k1_n, k1_c, k2_n, k2_c, ar_n, ar_c, pk_n, pk_c, rm_0, rm_1, rm_2, rm_3, rm_4, rm_5, rc_9, rcs, fvs, rf_s, rf_n, isI_i, isL_l, isR_r, isR_n, isR_q, ct_i, ct_l, ct_r, ct_n, ct_q, tFs, tCs, tKs, tJs, tSs, e_nf, lgs, ↓reduceIte, true_and, and_true, false_and, and_false, or_true, true_or, false_or, or_false, Nat.reduceAdd, Nat.reduceEqDiff, Nat.reduceDiv, Nat.reduceLT, Nat.reduceLeDiff, Nat.zero_add, reduceCtorEq, Bool.false_eq_true, Option.toList_some, Option.toList_none, List.cons_append, List.nil_append, not_true_eq_false, not_false_eq_true, Nat.sub_zero, dsX4_place, jsX4_place, xcX4_place, h0, hSR, hkd, c1, c2', hse, c3, i10, hb, hk0, hlast, c4, ↓sp_X6_isTime, ↓sp_X6_isValueOf, ↓sp_X4_spansEnd, ↓sp_X4_blockAt]
            exact ⟨hsp6, main (by rw [hil]; simp [c4])⟩
          · rw [if_pos (by rw [hil]; simp [c4])] at hq
            refine e_g2 hG [(63, [])] 60 ?_
            simp only [e_wp_s, Option.getD_some, Option.isSome_some, Option.isSome_none, xis0, xis1, xis2, xis3, xis4, e_ks, lk_k, lk_c, List.lookup_nil, gt_c, vi_i, k1_n, k1_c, k2_n, k2_c, ar_n, ar_c, pk_n, pk_c, rm_0, rm_1, rm_2, rm_3, rm_4, rm_5, rc_9, rcs, fvs, rf_s, rf_n, isI_i, isL_l, isR_r, isR_n, isR_q, ct_i, ct_l, ct_r, ct_n, ct_q, tFs, tCs, tKs, tJs, tSs, e_nf, lgs, ↓reduceIte, true_and, and_true, false_and, and_false, or_true, true_or, false_or, or_false, Nat.reduceAdd, Nat.reduceEqDiff, Nat.reduceDiv, Nat.reduceLT, Nat.reduceLeDiff, Nat.zero_add, reduceCtorEq, Bool.false_eq_true, Option.toList_some, Option.toList_none, List.cons_append, List.nil_append, not_true_eq_false, not_false_eq_true, Nat.sub_zero, dsX4_place, jsX4_place, xcX4_place, h0, hSR, hkd, c1, c2', hse, c3, i10, hb, hk0, hlast, c4, ↓sp_X6_isTime, ↓sp_X6_isValueOf, ↓sp_X4_spansEnd, ↓sp_X4_blockAt]
            refine ⟨hsp6, O, kd, lab, sp, l ++ [x], lt, hS, fun M' hS' hF => ?_⟩
            refine e_g2 hG [] 60 ?_
            simp only [e_wp_s, Option.getD_some, Option.isSome_some, Option.isSome_none, xis0, xis1, xis2, xis3, xis4, e_ks, lk_k, lk_c, List.lookup_nil, gt_c, vi_i, k1_n, k1_c, k2_n, k2_c, ar_n, ar_c, pk_n, pk_c, rm_0, rm_1, rm_2, rm_3, rm_4, rm_5, rc_9, rcs, fvs, rf_s, rf_n, isI_i, isL_l, isR_r, isR_n, isR_q, ct_i, ct_l, ct_r, ct_n, ct_q, tFs, tCs, tKs, tJs, tSs, e_nf, lgs, ↓reduceIte, true_and, and_true, false_and, and_false, or_true, true_or, false_or, or_false, Nat.reduceAdd, Nat.reduceEqDiff, Nat.reduceDiv, Nat.reduceLT, Nat.reduceLeDiff, Nat.zero_add, reduceCtorEq, Bool.false_eq_true, Option.toList_some, Option.toList_none, List.cons_append, List.nil_append, not_true_eq_false, not_false_eq_true, Nat.sub_zero, dsX4_place, jsX4_place, xcX4_place]
            exact hq _ _ hS' hF
    · rw [if_pos (fun z => c2 z.2)] at hq
      have c2' : isVd kd v = 0 := by
        unfold isVd at c2 ⊢
        split at c2 <;> split at c2 <;> first | exact absurd rfl c2 | (split <;> first | rfl | contradiction)
      refine e_g2 hG [] 60 ?_
      simp only [e_wp_s, Option.getD_some, Option.isSome_some, Option.isSome_none, xis0, xis1, xis2, xis3, xis4, e_ks, lk_k, lk_c, List.lookup_nil, gt_c, vi_i, k1_n, k1_c, k2_n, k2_c, ar_n, ar_c, pk_n, pk_c, rm_0, rm_1, rm_2, rm_3, rm_4, rm_5, rc_9, rcs, fvs, rf_s, rf_n, isI_i, isL_l, isR_r, isR_n, isR_q, ct_i, ct_l, ct_r, ct_n, ct_q, tFs, tCs, tKs, tJs, tSs, e_nf, lgs, ↓reduceIte, true_and, and_true, false_and, and_false, or_true, true_or, false_or, or_false, Nat.reduceAdd, Nat.reduceEqDiff, Nat.reduceDiv, Nat.reduceLT, Nat.reduceLeDiff, Nat.zero_add, reduceCtorEq, Bool.false_eq_true, Option.toList_some, Option.toList_none, List.cons_append, List.nil_append, not_true_eq_false, not_false_eq_true, Nat.sub_zero, dsX4_place, jsX4_place, xcX4_place, h0, hSR, hkd, c1, c2', i10, ↓sp_X6_isTime, ↓sp_X6_isValueOf]
      exact hq _ _ hS Fr.rf
  · rw [if_pos (fun z => c1 z.1)] at hq
    refine e_g2 hG [] 60 ?_
    simp only [e_wp_s, Option.getD_some, Option.isSome_some, Option.isSome_none, xis0, xis1, xis2, xis3, xis4, e_ks, lk_k, lk_c, List.lookup_nil, gt_c, vi_i, k1_n, k1_c, k2_n, k2_c, ar_n, ar_c, pk_n, pk_c, rm_0, rm_1, rm_2, rm_3, rm_4, rm_5, rc_9, rcs, fvs, rf_s, rf_n, isI_i, isL_l, isR_r, isR_n, isR_q, ct_i, ct_l, ct_r, ct_n, ct_q, tFs, tCs, tKs, tJs, tSs, e_nf, lgs, ↓reduceIte, true_and, and_true, false_and, and_false, or_true, true_or, false_or, or_false, Nat.reduceAdd, Nat.reduceEqDiff, Nat.reduceDiv, Nat.reduceLT, Nat.reduceLeDiff, Nat.zero_add, reduceCtorEq, Bool.false_eq_true, Option.toList_some, Option.toList_none, List.cons_append, List.nil_append, not_true_eq_false, not_false_eq_true, Nat.sub_zero, dsX4_place, jsX4_place, xcX4_place, c1, ↓sp_X6_isTime]
    exact hq _ _ hS Fr.rf
def csX4_dropLate : CS := (cs_c 0 140 2 4 sp_X4_lateBelow (cs_c 0 134 2 4 sp_X4_hasLate cs_0))
theorem csoX4_dropLate : ∀ op x na cl sp, csX4_dropLate op x = some (na, cl, sp) → CallOK 4 3 64 op x na cl sp := (cs_c_ok (caX4_dropLate_140 okX4_lateBelow) (cs_c_ok (caX4_dropLate_134 okX4_hasLate) cs_0_ok))
theorem xcX4_dropLate : (∀ (Q : QT) (G : GT) (pc : Nat) (L : LV) (a0 a1 : Value) (r : List Value) (M : HM) (k n : Nat), ex_i 4 6 0 false csX4_dropLate Q G (.invokevirtual 140) pc L (a1 :: a0 :: r) M k n = (e_rm r ∧ e_rc M 4 [a0, a1] ∧ sp_X4_lateBelow [a0, a1] M k n (fun v M' k' n' => G (pc + 3) L (v.toList ++ r) M' k' n'))) ∧ (∀ (Q : QT) (G : GT) (pc : Nat) (L : LV) (a0 a1 : Value) (r : List Value) (M : HM) (k n : Nat), ex_i 4 6 0 false csX4_dropLate Q G (.invokevirtual 134) pc L (a1 :: a0 :: r) M k n = (e_rm r ∧ e_rc M 4 [a0, a1] ∧ sp_X4_hasLate [a0, a1] M k n (fun v M' k' n' => G (pc + 3) L (v.toList ++ r) M' k' n'))) := ⟨(fun _ _ _ _ _ _ _ _ _ _ => xv0_2 rfl), (fun _ _ _ _ _ _ _ _ _ _ => xv0_2 rfl)⟩
def sp_X4_dropLate : SP := fun as M k n Q => match as with
  | [.ref s, .int t] => ∃ O kd lab sp bk lt, SRep O M s kd lab sp bk lt ∧ ∀ M', SRep O M' s kd lab sp bk (lt.drop (lbl t lt)) → Fr (Ss s) O O M M' → Q none M' k n
  | _ => False
theorem okX4_dropLate : OkX4_dropLate sp_X4_dropLate := by
  refine inX4_dropLate csoX4_dropLate ?_
  intro as M k n Q hsp
  unfold sp_X4_dropLate at hsp
  split at hsp
  rotate_left
  · exact hsp.elim
  rename_i s t
  obtain ⟨O, kd, lab, sp, bk, lt, hS, hq⟩ := hsp
  obtain ⟨⟨h0, -, -, -, ⟨h1, h2, h3⟩, ⟨h4, h5, h6⟩⟩, -⟩ := id hS.1
  have hSR := hS.1.1
  obtain ⟨hc, h40, hl⟩ := hS.2.2.2.2
  have hlb := hS.lt t
  have hle := lbl_le t lt
  have ne : ¬ ltt M s = ltv M s := fun e => by rw [e, h5] at h2; cases h2
  have ne' : ¬ ltv M s = ltt M s := fun e => ne e.symm
  refine ⟨0, 0, Nat.zero_le _, Nat.zero_le _, Nat.le_of_ble_eq_true rfl, fun G hG => ?_⟩
  generalize hkk : lbl t lt = g at *
  have loop : ∀ d j U, j + d = lt.length - g → ArX M U (ltt M s) (ltv M s) → (∀ i, aI U (ltt M s) i = if i < j then aI M (ltt M s) (i + g) else aI M (ltt M s) i) → (∀ i, aL U (ltv M s) i = if i < j then aL M (ltv M s) (i + g) else aL M (ltv M s) i) → G 16 [(0, .ref s), (2, .int (nI g)), (3, .int (nI (lt.length - g))), (4, .int (nI j))] [] U 0 0 := by
    intro d
    induction d with
    | zero =>
      intro j U hj hX hI hL
      obtain ⟨x1, x2, x3, x4, x5, -⟩ := id hX
      have u0 : mK U s = 5 := by rw [x1]; exact h0
      have e1 : ¬ nI j < nI (lt.length - g) := nI_nlt (by omega) (by omega)
      refine e_g2 hG [] 60 ?_
      simp only [e_wp_s, Option.getD_some, Option.isSome_some, Option.isSome_none, xis0, xis1, xis2, xis3, xis4, e_ks, lk_k, lk_c, List.lookup_nil, gt_c, vi_i, k1_n, k1_c, k2_n, k2_c, ar_n, ar_c, pk_n, pk_c, rm_0, rm_1, rm_2, rm_3, rm_4, rm_5, rc_9, rcs, fvs, rf_s, rf_n, isI_i, isL_l, isR_r, isR_n, isR_q, ct_i, ct_l, ct_r, ct_n, ct_q, tFs, tCs, tKs, tJs, tSs, e_nf, lgs, ↓reduceIte, true_and, and_true, false_and, and_false, or_true, true_or, false_or, or_false, Nat.reduceAdd, Nat.reduceEqDiff, Nat.reduceDiv, Nat.reduceLT, Nat.reduceLeDiff, Nat.zero_add, reduceCtorEq, Bool.false_eq_true, Option.toList_some, Option.toList_none, List.cons_append, List.nil_append, not_true_eq_false, not_false_eq_true, Nat.sub_zero, dsX4_dropLate, jsX4_dropLate, xcX4_dropLate, u0, e1, hmK, hmN, hmI, hmL, hmR, haI, haL, haR]
      have hr := hS.r136 (sp' := sp) (bk' := bk) (lt' := lt.drop g) hX (by rw [List.length_drop]; omega) (by
        refine rdf_eq (fun i x hx => ?_)
        have hi := (List.getElem?_eq_some_iff.mp hx).1
        rw [List.length_drop] at hi
        rw [List.getElem?_drop] at hx
        obtain ⟨w1, w2, -⟩ := hS.ltA hx
        rw [Nat.zero_add, hI, hL, if_pos (show i < j by omega), if_pos (show i < j by omega), Nat.add_comm i g, w1, w2])
      rw [List.length_drop] at hr
      exact hq _ hr.1 hr.2
    | succ d ih =>
      intro j U hj hX hI hL
      obtain ⟨x1, x2, x3, x4, x5, -⟩ := id hX
      have u0 : mK U s = 5 := by rw [x1]; exact h0
      have u1 : mR U 134 s = some (ltt M s) := by rw [x5]; exact h1
      have u2 : mK U (ltt M s) = 9 := by rw [x1]; exact h2
      have u3 : mN U (ltt M s) = 40 := by rw [x2]; exact h3
      have u4 : mR U 135 s = some (ltv M s) := by rw [x5]; exact h4
      have u5 : mK U (ltv M s) = 10 := by rw [x1]; exact h5
      have u6 : mN U (ltv M s) = 40 := by rw [x2]; exact h6
      have uc : mI U 136 s = nI lt.length := by rw [x3]; exact hc
      have e1 : nI j < nI (lt.length - g) := nI_lt (by omega) (by omega)
      have a1 : ¬ nI (j + g) < 0 := nI_pos (by omega)
      have a2 : nI (j + g) < nI lt.length := nI_lt (by omega) (by omega)
      have a3 : nI (j + g) < 40 := nI_lt (b := 40) (by omega) (by decide)
      have a4 : (nI (j + g)).toNatClampNeg = j + g := nI_clamp (by omega)
      have a5 : vp_in (nI (j + g)) 40 := vp_in_nI (by omega) (by decide)
      have a6 : (nI j).toNatClampNeg = j := nI_clamp (by omega)
      have a7 : vp_in (nI j) 40 := vp_in_nI (by omega) (by decide)
      refine e_g2 hG [(16, [0, 2, 3, 4])] 60 ?_
      simp only [e_wp_s, Option.getD_some, Option.isSome_some, Option.isSome_none, xis0, xis1, xis2, xis3, xis4, e_ks, lk_k, lk_c, List.lookup_nil, gt_c, vi_i, k1_n, k1_c, k2_n, k2_c, ar_n, ar_c, pk_n, pk_c, rm_0, rm_1, rm_2, rm_3, rm_4, rm_5, rc_9, rcs, fvs, rf_s, rf_n, isI_i, isL_l, isR_r, isR_n, isR_q, ct_i, ct_l, ct_r, ct_n, ct_q, tFs, tCs, tKs, tJs, tSs, e_nf, lgs, ↓reduceIte, true_and, and_true, false_and, and_false, or_true, true_or, false_or, or_false, Nat.reduceAdd, Nat.reduceEqDiff, Nat.reduceDiv, Nat.reduceLT, Nat.reduceLeDiff, Nat.zero_add, reduceCtorEq, Bool.false_eq_true, Option.toList_some, Option.toList_none, List.cons_append, List.nil_append, not_true_eq_false, not_false_eq_true, Nat.sub_zero, dsX4_dropLate, jsX4_dropLate, xcX4_dropLate, u0, u1, u2, u3, u4, u5, u6, uc, e1, nI_add, nI_1, a1, a2, a3, a4, a5, a6, a7, i10, hmK, hmN, hmI, hmL, hmR, haI, haL, haR, ↓sp_X4_hasLate]
      refine ih (j + 1) _ (by omega) ((hX.tI (Or.inl rfl)).tL (Or.inr rfl)) (fun i => ?_) (fun i => ?_)
      · simp only [haI, true_and]
        by_cases c : i = j
        · rw [if_pos c, hI, if_neg (show ¬ j + g < j by omega), if_pos (show i < j + 1 by omega), c]
        · rw [if_neg c, hI]
          by_cases c2 : i < j
          · rw [if_pos c2, if_pos (show i < j + 1 by omega)]
          · rw [if_neg c2, if_neg (show ¬ i < j + 1 by omega)]
      · simp only [haL, true_and]
        by_cases c : i = j
        · rw [if_pos c, hL, if_neg (show ¬ j + g < j by omega), if_pos (show i < j + 1 by omega), c]
        · rw [if_neg c, hL]
          by_cases c2 : i < j
          · rw [if_pos c2, if_pos (show i < j + 1 by omega)]
          · rw [if_neg c2, if_neg (show ¬ i < j + 1 by omega)]
  refine e_g2 hG [(5, [0, 1])] 60 ?_
  simp only [e_wp_s, Option.getD_some, Option.isSome_some, Option.isSome_none, xis0, xis1, xis2, xis3, xis4, e_ks, lk_k, lk_c, List.lookup_nil, gt_c, vi_i, k1_n, k1_c, k2_n, k2_c, ar_n, ar_c, pk_n, pk_c, rm_0, rm_1, rm_2, rm_3, rm_4, rm_5, rc_9, rcs, fvs, rf_s, rf_n, isI_i, isL_l, isR_r, isR_n, isR_q, ct_i, ct_l, ct_r, ct_n, ct_q, tFs, tCs, tKs, tJs, tSs, e_nf, lgs, ↓reduceIte, true_and, and_true, false_and, and_false, or_true, true_or, false_or, or_false, Nat.reduceAdd, Nat.reduceEqDiff, Nat.reduceDiv, Nat.reduceLT, Nat.reduceLeDiff, Nat.zero_add, reduceCtorEq, Bool.false_eq_true, Option.toList_some, Option.toList_none, List.cons_append, List.nil_append, not_true_eq_false, not_false_eq_true, Nat.sub_zero, dsX4_dropLate, jsX4_dropLate, xcX4_dropLate, h0, hSR, ↓sp_X4_lateBelow]
  refine ⟨_, hc, h40, ?_⟩
  rw [hlb]
  refine e_g2 hG [(16, [0, 2, 3, 4])] 60 ?_
  simp only [e_wp_s, Option.getD_some, Option.isSome_some, Option.isSome_none, xis0, xis1, xis2, xis3, xis4, e_ks, lk_k, lk_c, List.lookup_nil, gt_c, vi_i, k1_n, k1_c, k2_n, k2_c, ar_n, ar_c, pk_n, pk_c, rm_0, rm_1, rm_2, rm_3, rm_4, rm_5, rc_9, rcs, fvs, rf_s, rf_n, isI_i, isL_l, isR_r, isR_n, isR_q, ct_i, ct_l, ct_r, ct_n, ct_q, tFs, tCs, tKs, tJs, tSs, e_nf, lgs, ↓reduceIte, true_and, and_true, false_and, and_false, or_true, true_or, false_or, or_false, Nat.reduceAdd, Nat.reduceEqDiff, Nat.reduceDiv, Nat.reduceLT, Nat.reduceLeDiff, Nat.zero_add, reduceCtorEq, Bool.false_eq_true, Option.toList_some, Option.toList_none, List.cons_append, List.nil_append, not_true_eq_false, not_false_eq_true, Nat.sub_zero, dsX4_dropLate, jsX4_dropLate, xcX4_dropLate, h0, hc]
  rw [nI_sub hle]
  exact loop (lt.length - g) 0 M (by omega) ArX.rf (fun i => by rw [if_neg (by omega)]) (fun i => by rw [if_neg (by omega)])
