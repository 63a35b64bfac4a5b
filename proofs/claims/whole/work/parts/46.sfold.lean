/-! a gatherer that holds points; addSpans, rebuild -/
def GP (O : GH) (M : HM) (r g : Nat) (l : List PT) : Prop := GR M g ∧ ((O g).1 = r ∧ (O (gta M g)).1 = r ∧ (O (gva M g)).1 = r ∧ (O (grd M g)).1 = r) ∧ mI M 34 g = nI l.length ∧ l.length ≤ 340 ∧ rdf (fun i => (aI M (gta M g) i, aL M (gva M g) i)) 0 l.length = l
theorem GP.frm {S : Nat → Nat × Nat → Prop} {O O' : GH} {M N : HM} {r g : Nat} {l : List PT} (h : GP O M r g l) (hF : Fr S O O' M N) (hS : ∀ a o, o.1 = r → ¬ S a o) : GP O' N r g l := by
  obtain ⟨⟨k0, ⟨a1, a2, a3⟩, ⟨b1, b2, b3⟩, ⟨c1, c2⟩⟩, ⟨o0, o1, o2, o3⟩, h1, h2, h3⟩ := h
  have get : ∀ a, mK M a ≠ 0 → (O a).1 = r → Sm a M N := fun a h1 h2 => (hF a h1).2.2 (hS _ _ h2)
  have kO : ∀ a, mK M a ≠ 0 → (O a).1 = r → (O' a).1 = r := fun a h1 h2 => by rw [(hF a h1).2.1]; exact h2
  have m0 := get g (by rw [k0]; decide) o0
  have m1 := get _ (by rw [a2]; decide) o1
  have m2 := get _ (by rw [b2]; decide) o2
  have m3 := get _ (by rw [c2]; decide) o3
  have eR := m0.2.2.2.2.1
  have q1 : gta N g = gta M g := by unfold gta; rw [eR]
  have q2 : gva N g = gva M g := by unfold gva; rw [eR]
  have q3 : grd N g = grd M g := by unfold grd; rw [eR]
  refine ⟨⟨m0.1.trans k0, ⟨?_, ?_, ?_⟩, ⟨?_, ?_, ?_⟩, ⟨?_, ?_⟩⟩, ⟨?_, ?_, ?_, ?_⟩, ?_, h2, ?_⟩
  · rw [eR, q1]; exact a1
  · rw [q1, m1.1]; exact a2
  · rw [q1, m1.2.1]; exact a3
  · rw [eR, q2]; exact b1
  · rw [q2, m2.1]; exact b2
  · rw [q2, m2.2.1]; exact b3
  · rw [eR, q3]; exact c1
  · rw [q3, m3.1]; exact c2
  · exact kO _ (by rw [k0]; decide) o0
  · rw [q1]; exact kO _ (by rw [a2]; decide) o1
  · rw [q2]; exact kO _ (by rw [b2]; decide) o2
  · rw [q3]; exact kO _ (by rw [c2]; decide) o3
  · rw [m0.2.2.1]; exact h1
  · rw [q1, q2, m1.2.2.2.2.2.1, m2.2.2.2.2.2.2.1]; exact h3
theorem GP.at_ {O : GH} {M : HM} {r g i : Nat} {l : List PT} {q : PT} (h : GP O M r g l) (hq : l[i]? = some q) : tmF M g (nI i) = q.1 ∧ vlF M g (nI i) = q.2 := by
  have hi := (List.getElem?_eq_some_iff.mp hq).1
  have hx := rdf_at h.2.2.2.2 hq
  rw [Nat.zero_add] at hx
  have h2 := h.2.2.2.1
  unfold tmF vlF
  rw [h.2.2.1, if_pos ⟨nI_pos (by omega), nI_lt hi (by omega), nI_lt (b := 340) (by omega) (by decide)⟩, if_pos ⟨nI_pos (by omega), nI_lt hi (by omega), nI_lt (b := 340) (by omega) (by decide)⟩, nI_clamp (by omega), ← hx]
  exact ⟨rfl, rfl⟩
def csX4_rebuild : CS := (cs_c 0 127 2 1 sp_X1_timeOf (cs_c 0 130 2 1 sp_X1_valueAt (cs_c 0 106 3 4 sp_X4_appendMain cs_0)))
theorem csoX4_rebuild : ∀ op x na cl sp, csX4_rebuild op x = some (na, cl, sp) → CallOK 4 5 116 op x na cl sp := (cs_c_ok (caX4_rebuild_127 okX1_timeOf) (cs_c_ok (caX4_rebuild_130 okX1_valueAt) (cs_c_ok (caX4_rebuild_106 okX4_appendMain) cs_0_ok)))
theorem xcX4_rebuild : (∀ (Q : QT) (G : GT) (pc : Nat) (L : LV) (a0 a1 : Value) (r : List Value) (M : HM) (k n : Nat), ex_i 4 4 0 false csX4_rebuild Q G (.invokevirtual 127) pc L (a1 :: a0 :: r) M k n = (e_rm r ∧ e_rc M 1 [a0, a1] ∧ sp_X1_timeOf [a0, a1] M k n (fun v M' k' n' => G (pc + 3) L (v.toList ++ r) M' k' n'))) ∧ (∀ (Q : QT) (G : GT) (pc : Nat) (L : LV) (a0 a1 : Value) (r : List Value) (M : HM) (k n : Nat), ex_i 4 4 0 false csX4_rebuild Q G (.invokevirtual 130) pc L (a1 :: a0 :: r) M k n = (e_rm r ∧ e_rc M 1 [a0, a1] ∧ sp_X1_valueAt [a0, a1] M k n (fun v M' k' n' => G (pc + 3) L (v.toList ++ r) M' k' n'))) ∧ (∀ (Q : QT) (G : GT) (pc : Nat) (L : LV) (a0 a1 a2 : Value) (r : List Value) (M : HM) (k n : Nat), ex_i 4 4 0 false csX4_rebuild Q G (.invokevirtual 106) pc L (a2 :: a1 :: a0 :: r) M k n = (e_rm r ∧ e_rc M 4 [a0, a1, a2] ∧ sp_X4_appendMain [a0, a1, a2] M k n (fun v M' k' n' => G (pc + 3) L (v.toList ++ r) M' k' n'))) := ⟨(fun _ _ _ _ _ _ _ _ _ _ => xv0_2 rfl), (fun _ _ _ _ _ _ _ _ _ _ => xv0_2 rfl), (fun _ _ _ _ _ _ _ _ _ _ _ => xv0_3 rfl)⟩
def sp_X4_rebuild : SP := fun as M k n Q => match as with
  | [.ref s, .ref g, .int i] => ∃ O kd lab sp bk lt r l j, SRep O M s kd lab sp bk lt ∧ GP O M r g l ∧ r ≠ s ∧ i = nI j ∧ j ≤ l.length ∧ l.length - j ≤ 300 ∧ 2 * ((l.drop j).foldl apM []).length ≤ k ∧ 240 * ((l.drop j).foldl apM []).length ≤ n ∧ ∀ O' M', SRep O' M' s kd lab sp ((l.drop j).foldl apM []) lt → Fr (Ss s) O O' M M' → Q none M' (k - 2 * ((l.drop j).foldl apM []).length) (n - 240 * ((l.drop j).foldl apM []).length)
  | _ => False
theorem fold_len : ∀ (l : List PT) (bk : List BLK), bk.length ≤ (l.foldl apM bk).length
  | [], bk => Nat.le_refl _
  | p :: l, bk => by
    have := fold_len l (apM bk p)
    rw [apM_len] at this
    rw [List.foldl_cons]
    omega
theorem okX4_rebuild : OkX4_rebuild sp_X4_rebuild := by
  refine inX4_rebuild csoX4_rebuild ?_
  intro as M k n Q hsp
  unfold sp_X4_rebuild at hsp
  split at hsp
  rotate_left
  · exact hsp.elim
  rename_i s g i
  obtain ⟨O, kd, lab, sp, bk, lt, r, l, j, hS, hGP, hrs, rfl, hj, h300, hk, hn, hq⟩ := hsp
  have h0 := hS.1.1.1
  refine ⟨_, _, hk, hn, Nat.le_of_ble_eq_true rfl, fun G hG => ?_⟩
  have loop : ∀ d i O' M' bk' k' n', i + d = l.length → SRep O' M' s kd lab sp bk' lt → Fr (Ss s) O O' M M' → (l.drop i).foldl apM bk' = (l.drop j).foldl apM [] → bk'.length ≤ i - j → j ≤ i → 2 * (((l.drop j).foldl apM []).length - bk'.length) ≤ k' → 240 * (((l.drop j).foldl apM []).length - bk'.length) ≤ n' → G 7 [(0, .ref s), (1, .ref g), (3, .int (nI i))] [] M' k' n' := by
    intro d
    induction d with
    | zero =>
      intro i O' M' bk' k' n' hi hS' hF' he hb hji hk' hn'
      have hg := hGP.frm hF' (fun a o ho e => hrs (ho.symm.trans e))
      have g0 := hg.1.1
      have g1 := hg.2.2.1
      have hl := hGP.2.2.2.1
      have e1 : ¬ nI i < nI l.length := nI_nlt (by omega) (by omega)
      refine e_g2 hG [] 40 ?_
      simp only [e_wp_s, Option.getD_some, Option.isSome_some, Option.isSome_none, xis0, xis1, xis2, xis3, xis4, e_ks, lk_k, lk_c, List.lookup_nil, gt_c, vi_i, k1_n, k1_c, k2_n, k2_c, ar_n, ar_c, pk_n, pk_c, rm_0, rm_1, rm_2, rm_3, rm_4, rm_5, rc_9, rcs, fvs, rf_s, rf_n, isI_i, isL_l, isR_r, isR_n, isR_q, ct_i, ct_l, ct_r, ct_n, ct_q, tFs, tCs, tKs, tJs, tSs, e_nf, lgs, ↓reduceIte, true_and, and_true, false_and, and_false, or_true, true_or, false_or, or_false, Nat.reduceAdd, Nat.reduceEqDiff, Nat.reduceDiv, Nat.reduceLT, Nat.reduceLeDiff, Nat.zero_add, reduceCtorEq, Bool.false_eq_true, Option.toList_some, Option.toList_none, List.cons_append, List.nil_append, not_true_eq_false, not_false_eq_true, Nat.sub_zero, dsX4_rebuild, jsX4_rebuild, xcX4_rebuild, g0, g1, e1]
      rw [show i = l.length by omega, List.drop_length] at he
      refine hq O' M' ?_ hF'
      rw [← he]; exact hS'
    | succ d ih =>
      intro i O' M' bk' k' n' hi hS' hF' he hb hji hk' hn'
      have hg := hGP.frm hF' (fun a o ho e => hrs (ho.symm.trans e))
      have g0 := hg.1.1
      have g1 := hg.2.2.1
      have g2 := hg.1
      have hl := hGP.2.2.2.1
      have s0 := hS'.1.1.1
      have e1 : nI i < nI l.length := nI_lt (by omega) (by omega)
      obtain ⟨q, hx⟩ : ∃ q, l[i]? = some q := ⟨_, List.getElem?_eq_getElem (by omega)⟩
      obtain ⟨t1, t2⟩ := hg.at_ hx
      have hd : l.drop i = q :: l.drop (i + 1) := by
        rw [List.drop_eq_getElem_cons (show i < l.length by omega)]
        congr 1
        exact (List.getElem?_eq_some_iff.mp hx).2
      rw [hd, List.foldl_cons] at he
      have hlen := apM_len bk' q
      have hge := fold_len (l.drop (i + 1)) (apM bk' q)
      rw [he] at hge
      refine e_g2 hG [(29, [0, 1, 3])] 40 ?_
      simp only [e_wp_s, Option.getD_some, Option.isSome_some, Option.isSome_none, xis0, xis1, xis2, xis3, xis4, e_ks, lk_k, lk_c, List.lookup_nil, gt_c, vi_i, k1_n, k1_c, k2_n, k2_c, ar_n, ar_c, pk_n, pk_c, rm_0, rm_1, rm_2, rm_3, rm_4, rm_5, rc_9, rcs, fvs, rf_s, rf_n, isI_i, isL_l, isR_r, isR_n, isR_q, ct_i, ct_l, ct_r, ct_n, ct_q, tFs, tCs, tKs, tJs, tSs, e_nf, lgs, ↓reduceIte, true_and, and_true, false_and, and_false, or_true, true_or, false_or, or_false, Nat.reduceAdd, Nat.reduceEqDiff, Nat.reduceDiv, Nat.reduceLT, Nat.reduceLeDiff, Nat.zero_add, reduceCtorEq, Bool.false_eq_true, Option.toList_some, Option.toList_none, List.cons_append, List.nil_append, not_true_eq_false, not_false_eq_true, Nat.sub_zero, dsX4_rebuild, jsX4_rebuild, xcX4_rebuild, g0, g1, g2, s0, e1, t1, t2, ↓sp_X1_timeOf, ↓sp_X1_valueAt]
      refine ⟨O', kd, lab, sp, bk', lt, hS', fun ho => ?_, fun O2 M2 hS2 hF2 => ?_⟩
      · rw [if_pos ho] at hlen
        omega
      · refine e_g2 hG [(7, [0, 1, 3])] 40 ?_
        simp only [e_wp_s, Option.getD_some, Option.isSome_some, Option.isSome_none, xis0, xis1, xis2, xis3, xis4, e_ks, lk_k, lk_c, List.lookup_nil, gt_c, vi_i, k1_n, k1_c, k2_n, k2_c, ar_n, ar_c, pk_n, pk_c, rm_0, rm_1, rm_2, rm_3, rm_4, rm_5, rc_9, rcs, fvs, rf_s, rf_n, isI_i, isL_l, isR_r, isR_n, isR_q, ct_i, ct_l, ct_r, ct_n, ct_q, tFs, tCs, tKs, tJs, tSs, e_nf, lgs, ↓reduceIte, true_and, and_true, false_and, and_false, or_true, true_or, false_or, or_false, Nat.reduceAdd, Nat.reduceEqDiff, Nat.reduceDiv, Nat.reduceLT, Nat.reduceLeDiff, Nat.zero_add, reduceCtorEq, Bool.false_eq_true, Option.toList_some, Option.toList_none, List.cons_append, List.nil_append, not_true_eq_false, not_false_eq_true, Nat.sub_zero, dsX4_rebuild, jsX4_rebuild, xcX4_rebuild, nI_1]
        refine ih (i + 1) O2 M2 _ _ _ (by omega) hS2 (hF'.tr hF2) he (by rw [hlen]; split <;> omega) (by omega) ?_ ?_
        · rw [hlen]; split <;> omega
        · rw [hlen]; split <;> omega
  have hX := hS.r133 (sp' := sp) (lt' := lt) (bk' := []) ArX.rf hS.2.2.2.1.2.less
  refine e_g2 hG [(7, [0, 1, 3])] 40 ?_
  simp only [e_wp_s, Option.getD_some, Option.isSome_some, Option.isSome_none, xis0, xis1, xis2, xis3, xis4, e_ks, lk_k, lk_c, List.lookup_nil, gt_c, vi_i, k1_n, k1_c, k2_n, k2_c, ar_n, ar_c, pk_n, pk_c, rm_0, rm_1, rm_2, rm_3, rm_4, rm_5, rc_9, rcs, fvs, rf_s, rf_n, isI_i, isL_l, isR_r, isR_n, isR_q, ct_i, ct_l, ct_r, ct_n, ct_q, tFs, tCs, tKs, tJs, tSs, e_nf, lgs, ↓reduceIte, true_and, and_true, false_and, and_false, or_true, true_or, false_or, or_false, Nat.reduceAdd, Nat.reduceEqDiff, Nat.reduceDiv, Nat.reduceLT, Nat.reduceLeDiff, Nat.zero_add, reduceCtorEq, Bool.false_eq_true, Option.toList_some, Option.toList_none, List.cons_append, List.nil_append, not_true_eq_false, not_false_eq_true, Nat.sub_zero, dsX4_rebuild, jsX4_rebuild, xcX4_rebuild, h0]
  exact loop (l.length - j) j O _ [] _ _ (by omega) hX.1 hX.2 rfl (Nat.zero_le _) (Nat.le_refl _) (Nat.le_refl _) (Nat.le_refl _)
def tkS (x : SPN) (v : Int64) : SPN := (x.1, x.2.1, x.2.2.1 + 1, x.2.2.2.1 + v, (if v < x.2.2.2.2.1 then v else x.2.2.2.2.1), (if v < x.2.2.2.2.2.1 then x.2.2.2.2.2.1 else v), x.2.2.2.2.2.2.1, v)
def nwS (w : Int32) (p : PT) : SPN := (p.1 / w * w, p.1 / w * w + w, 1, p.2, p.2, p.2, p.2, p.2)
def adS (w : Int32) (sp : List SPN) (p : PT) : List SPN := match sp.getLast? with
  | none => sp ++ [nwS w p]
  | some x => if p.1 < x.2.1 then sp.dropLast ++ [tkS x p.2] else sp ++ [nwS w p]
theorem adS_snoc (w : Int32) (l : List SPN) (x : SPN) (p : PT) : adS w (l ++ [x]) p = if p.1 < x.2.1 then l ++ [tkS x p.2] else l ++ [x] ++ [nwS w p] := by
  unfold adS; rw [List.getLast?_concat, List.dropLast_concat]
theorem adS_len (w : Int32) (sp : List SPN) (p : PT) : sp.length ≤ (adS w sp p).length := by
  rcases nil_snoc sp with rfl | ⟨l, x, rfl⟩
  · exact Nat.zero_le _
  · rw [adS_snoc]; split <;> simp
theorem fold_lenS (w : Int32) : ∀ (l : List PT) (sp : List SPN), sp.length ≤ (l.foldl (adS w) sp).length
  | [], sp => Nat.le_refl _
  | p :: l, sp => by
    have := fold_lenS w l (adS w sp p)
    have := adS_len w sp p
    rw [List.foldl_cons]
    omega
def szOK (B : Nat) (sp : List SPN) : Prop := ∀ x, x ∈ sp → ∃ m, x.2.2.1 = nI m ∧ 0 < m ∧ m ≤ B
theorem szOK.ad {B : Nat} {sp : List SPN} (w : Int32) (p : PT) (h : szOK B sp) : szOK (B + 1) (adS w sp p) := by
  have nw : ∃ m, (nwS w p).2.2.1 = nI m ∧ 0 < m ∧ m ≤ B + 1 := ⟨1, rfl, by decide, by omega⟩
  have up : ∀ x, x ∈ sp → ∃ m, x.2.2.1 = nI m ∧ 0 < m ∧ m ≤ B + 1 := fun x hx => by
    obtain ⟨m, h1, h2, h3⟩ := h x hx
    exact ⟨m, h1, h2, by omega⟩
  rcases nil_snoc sp with rfl | ⟨l, x, rfl⟩
  · intro y hy
    have : y = nwS w p := by simpa [adS] using hy
    rw [this]; exact nw
  · rw [adS_snoc]
    intro y hy
    split at hy
    · rcases List.mem_append.mp hy with hy | hy
      · exact up y (List.mem_append_left _ hy)
      · rw [List.mem_singleton.mp hy]
        obtain ⟨m, h1, h2, h3⟩ := h x (by simp)
        exact ⟨m + 1, by show x.2.2.1 + 1 = _; rw [h1, nI_1], by omega, by omega⟩
    · rcases List.mem_append.mp hy with hy | hy
      · exact up y hy
      · rw [List.mem_singleton.mp hy]; exact nw
theorem tkE_k {M : HM} {p : Nat} {x : SPN} {v : Int64} (h : SPK M p x) : SPK (tkE M p v) p (tkS x v) := by
  obtain ⟨h1, h2, h3, h4, h5, h6, h7, h8⟩ := h
  unfold tkE SPK tkS
  simp only [hmI, hmL, Nat.reduceEqDiff, false_and, and_self, if_false, if_true]
  rw [h1, h2, h3, h4, h5, h6, h7]
  exact ⟨rfl, rfl, rfl, rfl, rfl, rfl, rfl, trivial⟩
theorem tkM_k {M : HM} {p : Nat} {x : SPN} {v : Int64} (h : SPK M p x) : SPK (tkM M p v) p (if x.2.2.1 = 0 then tkS (x.1, x.2.1, x.2.2.1, x.2.2.2.1, v, v, v, x.2.2.2.2.2.2.2) v else tkS x v) := by
  unfold tkM
  rw [h.2.2.1]
  by_cases c : x.2.2.1 = 0
  · rw [if_pos c, if_pos c]
    refine tkE_k ?_
    obtain ⟨h1, h2, h3, h4, h5, h6, h7, h8⟩ := h
    unfold SPK
    simp only [hmI, hmL, Nat.reduceEqDiff, false_and, and_self, if_false, if_true]
    exact ⟨h1, h2, h3, h4, trivial, trivial, trivial, h8⟩
  · rw [if_neg c, if_neg c]; exact tkE_k h
theorem tkM_sm {M : HM} {p a : Nat} {v : Int64} (h : a ≠ p) : Sm a M (tkM M p v) := by
  unfold tkM tkE
  split
  · exact sm_sI h (sm_sL h (sm_sL h (sm_sL h (sm_sL h (sm_sL h (sm_sL h (sm_sL h Sm.rf)))))))
  · exact sm_sI h (sm_sL h (sm_sL h (sm_sL h (sm_sL h Sm.rf))))
theorem tkM_K (M : HM) (p : Nat) (v : Int64) : mK (tkM M p v) = mK M := by
  unfold tkM tkE
  split <;> rfl
theorem i_ss (x y : Int32) : x - (x - y) = y := by rw [Int32.sub_eq_add_neg, Int32.neg_sub, Int32.add_comm, Int32.sub_add_cancel]
def csX4_addSpans : CS := (cs_c 0 127 2 1 sp_X1_timeOf (cs_c 0 64 2 4 sp_X4_spanAt (cs_c 0 143 3 4 sp_X4_openSpan (cs_c 0 130 2 1 sp_X1_valueAt (cs_c 0 147 2 5 sp_X5_take cs_0)))))
theorem csoX4_addSpans : ∀ op x na cl sp, csX4_addSpans op x = some (na, cl, sp) → CallOK 4 3 63 op x na cl sp := (cs_c_ok (caX4_addSpans_127 okX1_timeOf) (cs_c_ok (caX4_addSpans_64 okX4_spanAt) (cs_c_ok (caX4_addSpans_143 okX4_openSpan) (cs_c_ok (caX4_addSpans_130 okX1_valueAt) (cs_c_ok (caX4_addSpans_147 okX5_take) cs_0_ok)))))
theorem xcX4_addSpans : (∀ (Q : QT) (G : GT) (pc : Nat) (L : LV) (a0 a1 : Value) (r : List Value) (M : HM) (k n : Nat), ex_i 4 8 0 false csX4_addSpans Q G (.invokevirtual 127) pc L (a1 :: a0 :: r) M k n = (e_rm r ∧ e_rc M 1 [a0, a1] ∧ sp_X1_timeOf [a0, a1] M k n (fun v M' k' n' => G (pc + 3) L (v.toList ++ r) M' k' n'))) ∧ (∀ (Q : QT) (G : GT) (pc : Nat) (L : LV) (a0 a1 : Value) (r : List Value) (M : HM) (k n : Nat), ex_i 4 8 0 false csX4_addSpans Q G (.invokevirtual 64) pc L (a1 :: a0 :: r) M k n = (e_rm r ∧ e_rc M 4 [a0, a1] ∧ sp_X4_spanAt [a0, a1] M k n (fun v M' k' n' => G (pc + 3) L (v.toList ++ r) M' k' n'))) ∧ (∀ (Q : QT) (G : GT) (pc : Nat) (L : LV) (a0 a1 a2 : Value) (r : List Value) (M : HM) (k n : Nat), ex_i 4 8 0 false csX4_addSpans Q G (.invokevirtual 143) pc L (a2 :: a1 :: a0 :: r) M k n = (e_rm r ∧ e_rc M 4 [a0, a1, a2] ∧ sp_X4_openSpan [a0, a1, a2] M k n (fun v M' k' n' => G (pc + 3) L (v.toList ++ r) M' k' n'))) ∧ (∀ (Q : QT) (G : GT) (pc : Nat) (L : LV) (a0 a1 : Value) (r : List Value) (M : HM) (k n : Nat), ex_i 4 8 0 false csX4_addSpans Q G (.invokevirtual 130) pc L (a1 :: a0 :: r) M k n = (e_rm r ∧ e_rc M 1 [a0, a1] ∧ sp_X1_valueAt [a0, a1] M k n (fun v M' k' n' => G (pc + 3) L (v.toList ++ r) M' k' n'))) ∧ (∀ (Q : QT) (G : GT) (pc : Nat) (L : LV) (a0 a1 : Value) (r : List Value) (M : HM) (k n : Nat), ex_i 4 8 0 false csX4_addSpans Q G (.invokevirtual 147) pc L (a1 :: a0 :: r) M k n = (e_rm r ∧ e_rc M 5 [a0, a1] ∧ sp_X5_take [a0, a1] M k n (fun v M' k' n' => G (pc + 3) L (v.toList ++ r) M' k' n'))) := ⟨(fun _ _ _ _ _ _ _ _ _ _ => xv0_2 rfl), (fun _ _ _ _ _ _ _ _ _ _ => xv0_2 rfl), (fun _ _ _ _ _ _ _ _ _ _ _ => xv0_3 rfl), (fun _ _ _ _ _ _ _ _ _ _ => xv0_2 rfl), (fun _ _ _ _ _ _ _ _ _ _ => xv0_2 rfl)⟩
def sp_X4_addSpans : SP := fun as M k n Q => match as with
  | [.ref s, .ref g, .int i, .int w] => ∃ O kd lab sp bk lt r l j, SRep O M s kd lab sp bk lt ∧ GP O M r g l ∧ r ≠ s ∧ i = nI j ∧ j ≤ l.length ∧ ¬ w < 1 ∧ szOK 400 sp ∧ ((l.take j).foldl (adS w) sp).length ≤ 60 ∧ ((l.take j).foldl (adS w) sp).length - sp.length ≤ k ∧ 8 * (((l.take j).foldl (adS w) sp).length - sp.length) ≤ n ∧ ∀ O' M', SRep O' M' s kd lab ((l.take j).foldl (adS w) sp) bk lt → Fr (Ss s) O O' M M' → Q none M' (k - (((l.take j).foldl (adS w) sp).length - sp.length)) (n - 8 * (((l.take j).foldl (adS w) sp).length - sp.length))
  | _ => False
theorem okX4_addSpans : OkX4_addSpans sp_X4_addSpans := by
  refine inX4_addSpans csoX4_addSpans ?_
  intro as M k n Q hsp
  unfold sp_X4_addSpans at hsp
  split at hsp
  rotate_left
  · exact hsp.elim
  rename_i s g i w
  obtain ⟨O, kd, lab, sp, bk, lt, r, l, j, hS, hGP, hrs, rfl, hj, hw, hz, h60, hk, hn, hq⟩ := hsp
  have h0 := hS.1.1.1
  have hw0 : ¬ w = 0 := fun e => hw (by rw [e]; decide)
  have hl := hGP.2.2.2.1
  refine ⟨_, _, hk, hn, Nat.le_of_ble_eq_true rfl, fun G hG => ?_⟩
  generalize hFF : (l.take j).foldl (adS w) sp = F at *
  have loop : ∀ d i O' M' sp' k' n', i + d = j → SRep O' M' s kd lab sp' bk lt → Fr (Ss s) O O' M M' → ((l.take j).drop i).foldl (adS w) sp' = F → szOK (400 + i) sp' → F.length - sp'.length ≤ k' → 8 * (F.length - sp'.length) ≤ n' → G 9 [(0, .ref s), (1, .ref g), (2, .int (nI j)), (3, .int w), (4, .int (nI i))] [] M' k' n' := by
    intro d
    induction d with
    | zero =>
      intro i O' M' sp' k' n' hi hS' hF' he hz' hk' hn'
      have e1 : ¬ nI i < nI j := nI_nlt (by omega) (by omega)
      refine e_g2 hG [] 40 ?_
      simp only [e_wp_s, Option.getD_some, Option.isSome_some, Option.isSome_none, xis0, xis1, xis2, xis3, xis4, e_ks, lk_k, lk_c, List.lookup_nil, gt_c, vi_i, k1_n, k1_c, k2_n, k2_c, ar_n, ar_c, pk_n, pk_c, rm_0, rm_1, rm_2, rm_3, rm_4, rm_5, rc_9, rcs, fvs, rf_s, rf_n, isI_i, isL_l, isR_r, isR_n, isR_q, ct_i, ct_l, ct_r, ct_n, ct_q, tFs, tCs, tKs, tJs, tSs, e_nf, lgs, ↓reduceIte, true_and, and_true, false_and, and_false, or_true, true_or, false_or, or_false, Nat.reduceAdd, Nat.reduceEqDiff, Nat.reduceDiv, Nat.reduceLT, Nat.reduceLeDiff, Nat.zero_add, reduceCtorEq, Bool.false_eq_true, Option.toList_some, Option.toList_none, List.cons_append, List.nil_append, not_true_eq_false, not_false_eq_true, Nat.sub_zero, dsX4_addSpans, jsX4_addSpans, xcX4_addSpans, e1]
      rw [List.drop_eq_nil_of_le (by rw [List.length_take]; omega)] at he
      refine hq O' M' ?_ hF'
      rw [← he]; exact hS'
    | succ d ih =>
      intro i O' M' sp' k' n' hi hS' hF' he hz' hk' hn'
      have hg := hGP.frm hF' (fun a o ho e => hrs (ho.symm.trans e))
      have g0 := hg.1.1
      have g2 := hg.1
      have s0 := hS'.1.1.1
      have sR := hS'.1.1
      have e1 : nI i < nI j := nI_lt (by omega) (by omega)
      obtain ⟨q, hx⟩ : ∃ q, l[i]? = some q := ⟨_, List.getElem?_eq_getElem (by omega)⟩
      obtain ⟨t1, t2⟩ := hg.at_ hx
      have hd : (l.take j).drop i = q :: (l.take j).drop (i + 1) := by
        rw [List.drop_eq_getElem_cons (show i < (l.take j).length by rw [List.length_take]; omega)]
        congr 1
        rw [List.getElem_take]
        exact (List.getElem?_eq_some_iff.mp hx).2
      rw [hd, List.foldl_cons] at he
      have hge := fold_lenS w ((l.take j).drop (i + 1)) (adS w sp' q)
      rw [he] at hge
      have hz2 := hz'.ad w q
      -- a new span
      have opn : adS w sp' q = sp' ++ [nwS w q] → G 50 [(0, .ref s), (1, .ref g), (2, .int (nI j)), (3, .int w), (4, .int (nI i)), (5, .int q.1)] [] M' k' n' := by
        intro ho
        rw [ho] at hge he hz2
        rw [List.length_append] at hge
        simp only [List.length_cons, List.length_nil] at hge
        refine e_g2 hG [(69, [0, 1, 2, 3, 4])] 40 ?_
        simp only [e_wp_s, Option.getD_some, Option.isSome_some, Option.isSome_none, xis0, xis1, xis2, xis3, xis4, e_ks, lk_k, lk_c, List.lookup_nil, gt_c, vi_i, k1_n, k1_c, k2_n, k2_c, ar_n, ar_c, pk_n, pk_c, rm_0, rm_1, rm_2, rm_3, rm_4, rm_5, rc_9, rcs, fvs, rf_s, rf_n, isI_i, isL_l, isR_r, isR_n, isR_q, ct_i, ct_l, ct_r, ct_n, ct_q, tFs, tCs, tKs, tJs, tSs, e_nf, lgs, ↓reduceIte, true_and, and_true, false_and, and_false, or_true, true_or, false_or, or_false, Nat.reduceAdd, Nat.reduceEqDiff, Nat.reduceDiv, Nat.reduceLT, Nat.reduceLeDiff, Nat.zero_add, reduceCtorEq, Bool.false_eq_true, Option.toList_some, Option.toList_none, List.cons_append, List.nil_append, not_true_eq_false, not_false_eq_true, Nat.sub_zero, dsX4_addSpans, jsX4_addSpans, xcX4_addSpans, s0, hw0, i_ss]
        refine ⟨O', kd, lab, sp', bk, lt, hS', by omega, by omega, by omega, fun O2 M2 p c1 c2 c3 c4 hS2 hp hF2 => ?_⟩
        have hg2 := hg.frm hF2 (fun a o ho e => hrs (ho.symm.trans e))
        have y0 := hg2.1.1
        have y2 := hg2.1
        obtain ⟨u1, u2⟩ := hg2.at_ hx
        have hpk := (hS2.2.2.1.2.2.1 _ p (by omega) hp).1
        have hsk : SPK M2 p (q.1 / w * w, q.1 / w * w + w, 0, 0, c1, c2, c3, c4) := by
          obtain ⟨p', hp', hs'⟩ := hS2.2.2.1.2.2.2.1 sp'.length (q.1 / w * w, q.1 / w * w + w, 0, 0, c1, c2, c3, c4) (by simp)
          rw [hp] at hp'
          cases hp'
          exact hs'
        have hs3 := tkM_k (v := q.2) hsk
        rw [if_pos rfl] at hs3
        have hs4 := hS2.spn (by omega) hp (tkM_K M2 p q.2) (fun a ha => tkM_sm ha) hs3
        rw [set_last] at hs4
        have hnw : tkS (q.1 / w * w, q.1 / w * w + w, 0, 0, q.2, q.2, q.2, c4) q.2 = nwS w q := by
          unfold tkS nwS
          simp
        rw [hnw] at hs4
        refine e_g2 hG [(9, [0, 1, 2, 3, 4])] 40 ?_
        simp only [e_wp_s, Option.getD_some, Option.isSome_some, Option.isSome_none, xis0, xis1, xis2, xis3, xis4, e_ks, lk_k, lk_c, List.lookup_nil, gt_c, vi_i, k1_n, k1_c, k2_n, k2_c, ar_n, ar_c, pk_n, pk_c, rm_0, rm_1, rm_2, rm_3, rm_4, rm_5, rc_9, rcs, fvs, rf_s, rf_n, isI_i, isL_l, isR_r, isR_n, isR_q, ct_i, ct_l, ct_r, ct_n, ct_q, tFs, tCs, tKs, tJs, tSs, e_nf, lgs, ↓reduceIte, true_and, and_true, false_and, and_false, or_true, true_or, false_or, or_false, Nat.reduceAdd, Nat.reduceEqDiff, Nat.reduceDiv, Nat.reduceLT, Nat.reduceLeDiff, Nat.zero_add, reduceCtorEq, Bool.false_eq_true, Option.toList_some, Option.toList_none, List.cons_append, List.nil_append, not_true_eq_false, not_false_eq_true, Nat.sub_zero, dsX4_addSpans, jsX4_addSpans, xcX4_addSpans, hpk, y0, y2, u2, nI_1, ↓sp_X1_valueAt, ↓sp_X5_take]
        refine ih (i + 1) O2 _ _ _ _ (by omega) hs4.1 ((hF'.tr hF2).tr hs4.2) he hz2 ?_ ?_
        · rw [List.length_append]; simp only [List.length_cons, List.length_nil]; omega
        · rw [List.length_append]; simp only [List.length_cons, List.length_nil]; omega
      rcases hS'.spL with ⟨rfl, hp⟩ | ⟨l', x, p, rfl, hp, hp2, hpx, hpk, hl60⟩
      · refine e_g2 hG [(50, [0, 1, 2, 3, 4, 5])] 40 ?_
        simp only [e_wp_s, Option.getD_some, Option.isSome_some, Option.isSome_none, xis0, xis1, xis2, xis3, xis4, e_ks, lk_k, lk_c, List.lookup_nil, gt_c, vi_i, k1_n, k1_c, k2_n, k2_c, ar_n, ar_c, pk_n, pk_c, rm_0, rm_1, rm_2, rm_3, rm_4, rm_5, rc_9, rcs, fvs, rf_s, rf_n, isI_i, isL_l, isR_r, isR_n, isR_q, ct_i, ct_l, ct_r, ct_n, ct_q, tFs, tCs, tKs, tJs, tSs, e_nf, lgs, ↓reduceIte, true_and, and_true, false_and, and_false, or_true, true_or, false_or, or_false, Nat.reduceAdd, Nat.reduceEqDiff, Nat.reduceDiv, Nat.reduceLT, Nat.reduceLeDiff, Nat.zero_add, reduceCtorEq, Bool.false_eq_true, Option.toList_some, Option.toList_none, List.cons_append, List.nil_append, not_true_eq_false, not_false_eq_true, Nat.sub_zero, dsX4_addSpans, jsX4_addSpans, xcX4_addSpans, e1, s0, sR, g0, g2, t1, hp, ↓sp_X1_timeOf, ↓sp_X4_spanAt]
        exact opn rfl
      · have hend := hpx.2.1
        by_cases c : q.1 < x.2.1
        · rw [adS_snoc, if_pos c] at he hz2 hge
          obtain ⟨m, z1, z2, z3⟩ := hz' x (by simp)
          have hs3 := tkM_k (v := q.2) hpx
          rw [if_neg (by rw [z1]; exact nI_ne0 z2 (by omega))] at hs3
          have hs4 := hS'.spn hl60 hp2 (tkM_K M' p q.2) (fun a ha => tkM_sm ha) hs3
          rw [set_last] at hs4
          refine e_g2 hG [(9, [0, 1, 2, 3, 4])] 60 ?_
          simp only [e_wp_s, Option.getD_some, Option.isSome_some, Option.isSome_none, xis0, xis1, xis2, xis3, xis4, e_ks, lk_k, lk_c, List.lookup_nil, gt_c, vi_i, k1_n, k1_c, k2_n, k2_c, ar_n, ar_c, pk_n, pk_c, rm_0, rm_1, rm_2, rm_3, rm_4, rm_5, rc_9, rcs, fvs, rf_s, rf_n, isI_i, isL_l, isR_r, isR_n, isR_q, ct_i, ct_l, ct_r, ct_n, ct_q, tFs, tCs, tKs, tJs, tSs, e_nf, lgs, ↓reduceIte, true_and, and_true, false_and, and_false, or_true, true_or, false_or, or_false, Nat.reduceAdd, Nat.reduceEqDiff, Nat.reduceDiv, Nat.reduceLT, Nat.reduceLeDiff, Nat.zero_add, reduceCtorEq, Bool.false_eq_true, Option.toList_some, Option.toList_none, List.cons_append, List.nil_append, not_true_eq_false, not_false_eq_true, Nat.sub_zero, dsX4_addSpans, jsX4_addSpans, xcX4_addSpans, e1, s0, sR, g0, g2, t1, t2, hp, hpk, hend, c, nI_1, ↓sp_X1_timeOf, ↓sp_X4_spanAt, ↓sp_X1_valueAt, ↓sp_X5_take]
          refine ih (i + 1) O' _ _ _ _ (by omega) hs4.1 (hF'.tr hs4.2) he hz2 ?_ ?_
          · rw [List.length_append] at hk' ⊢; simp only [List.length_cons, List.length_nil] at hk' ⊢; omega
          · rw [List.length_append] at hn' ⊢; simp only [List.length_cons, List.length_nil] at hn' ⊢; omega
        · refine e_g2 hG [(50, [0, 1, 2, 3, 4, 5])] 40 ?_
          simp only [e_wp_s, Option.getD_some, Option.isSome_some, Option.isSome_none, xis0, xis1, xis2, xis3, xis4, e_ks, lk_k, lk_c, List.lookup_nil, gt_c, vi_i, k1_n, k1_c, k2_n, k2_c, ar_n, ar_c, pk_n, pk_c, rm_0, rm_1, rm_2, rm_3, rm_4, rm_5, rc_9, rcs, fvs, rf_s, rf_n, isI_i, isL_l, isR_r, isR_n, isR_q, ct_i, ct_l, ct_r, ct_n, ct_q, tFs, tCs, tKs, tJs, tSs, e_nf, lgs, ↓reduceIte, true_and, and_true, false_and, and_false, or_true, true_or, false_or, or_false, Nat.reduceAdd, Nat.reduceEqDiff, Nat.reduceDiv, Nat.reduceLT, Nat.reduceLeDiff, Nat.zero_add, reduceCtorEq, Bool.false_eq_true, Option.toList_some, Option.toList_none, List.cons_append, List.nil_append, not_true_eq_false, not_false_eq_true, Nat.sub_zero, dsX4_addSpans, jsX4_addSpans, xcX4_addSpans, e1, s0, sR, g0, g2, t1, hp, hpk, hend, c, ↓sp_X1_timeOf, ↓sp_X4_spanAt]
          exact opn (by rw [adS_snoc, if_neg c])
  refine e_g2 hG [(9, [0, 1, 2, 3, 4])] 40 ?_
  simp only [e_wp_s, Option.getD_some, Option.isSome_some, Option.isSome_none, xis0, xis1, xis2, xis3, xis4, e_ks, lk_k, lk_c, List.lookup_nil, gt_c, vi_i, k1_n, k1_c, k2_n, k2_c, ar_n, ar_c, pk_n, pk_c, rm_0, rm_1, rm_2, rm_3, rm_4, rm_5, rc_9, rcs, fvs, rf_s, rf_n, isI_i, isL_l, isR_r, isR_n, isR_q, ct_i, ct_l, ct_r, ct_n, ct_q, tFs, tCs, tKs, tJs, tSs, e_nf, lgs, ↓reduceIte, true_and, and_true, false_and, and_false, or_true, true_or, false_or, or_false, Nat.reduceAdd, Nat.reduceEqDiff, Nat.reduceDiv, Nat.reduceLT, Nat.reduceLeDiff, Nat.zero_add, reduceCtorEq, Bool.false_eq_true, Option.toList_some, Option.toList_none, List.cons_append, List.nil_append, not_true_eq_false, not_false_eq_true, Nat.sub_zero, dsX4_addSpans, jsX4_addSpans, xcX4_addSpans, hw]
  exact loop j 0 O M sp _ _ (by omega) hS Fr.rf (by rw [List.drop_zero]; exact hFF) hz (Nat.le_refl _) (Nat.le_refl _)
