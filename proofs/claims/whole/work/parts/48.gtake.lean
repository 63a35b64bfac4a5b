/-! Gatherer: late points and main points taken -/
theorem Fr.sub {S S' : Nat → Nat × Nat → Prop} {O O' : GH} {M M' : HM} (h : Fr S O O' M M') (hs : ∀ a, mK M a ≠ 0 → S a (O a) → S' a (O a)) : Fr S' O O' M M' := fun a ha => ⟨(h a ha).1, (h a ha).2.1, fun q => (h a ha).2.2 (fun z => q (hs a ha z))⟩
def S3 (g x y : Nat) : Nat → Nat × Nat → Prop := fun a _ => a = g ∨ a = x ∨ a = y
def GG (O : GH) (M : HM) (r g : Nat) (acc : List PT) (x y : Int32) (j : Nat) : Prop := GP O M r g acc ∧ mI M 35 g = x ∧ mI M 36 g = y ∧ mI M 37 g = nI j
theorem GG.frm {S : Nat → Nat × Nat → Prop} {O O' : GH} {M N : HM} {r g j : Nat} {l : List PT} {x y : Int32} (h : GG O M r g l x y j) (hF : Fr S O O' M N) (z1 : ¬ S g (O g)) (z2 : ¬ S (gta M g) (O (gta M g))) (z3 : ¬ S (gva M g) (O (gva M g))) : GG O' N r g l x y j ∧ gta N g = gta M g ∧ gva N g = gva M g ∧ grd N g = grd M g := by
  obtain ⟨⟨⟨k0, ⟨a1, a2, a3⟩, ⟨b1, b2, b3⟩, ⟨c1, c2⟩⟩, ⟨o0, o1, o2, o3⟩, h1, h2, h3⟩, h4, h5, h6⟩ := h
  have kO : ∀ a, mK M a ≠ 0 → (O a).1 = r → (O' a).1 = r := fun a h1 h2 => by rw [(hF a h1).2.1]; exact h2
  have m0 := (hF g (by rw [k0]; decide)).2.2 z1
  have m1 := (hF _ (by rw [a2]; decide)).2.2 z2
  have m2 := (hF _ (by rw [b2]; decide)).2.2 z3
  have m3 := (hF (grd M g) (by rw [c2]; decide)).1
  have eR := m0.2.2.2.2.1
  have eI := m0.2.2.1
  have q1 : gta N g = gta M g := by unfold gta; rw [eR]
  have q2 : gva N g = gva M g := by unfold gva; rw [eR]
  have q3 : grd N g = grd M g := by unfold grd; rw [eR]
  refine ⟨⟨⟨⟨m0.1.trans k0, ⟨?_, ?_, ?_⟩, ⟨?_, ?_, ?_⟩, ⟨?_, ?_⟩⟩, ⟨?_, ?_, ?_, ?_⟩, ?_, h2, ?_⟩, ?_, ?_, ?_⟩, q1, q2, q3⟩
  · rw [eR, q1]; exact a1
  · rw [q1, m1.1]; exact a2
  · rw [q1, m1.2.1]; exact a3
  · rw [eR, q2]; exact b1
  · rw [q2, m2.1]; exact b2
  · rw [q2, m2.2.1]; exact b3
  · rw [eR, q3]; exact c1
  · rw [q3, m3]; exact c2
  · exact kO _ (by rw [k0]; decide) o0
  · rw [q1]; exact kO _ (by rw [a2]; decide) o1
  · rw [q2]; exact kO _ (by rw [b2]; decide) o2
  · rw [q3]; exact kO _ (by rw [c2]; decide) o3
  · rw [eI]; exact h1
  · rw [q1, q2, m1.2.2.2.2.2.1, m2.2.2.2.2.2.2.1]; exact h3
  · rw [eI]; exact h4
  · rw [eI]; exact h5
  · rw [eI]; exact h6
def adG (M : HM) (g c : Nat) (p : PT) : HM := sI (tL (tI M (gta M g) c p.1) (gva M g) c p.2) 34 g (nI (c + 1))
theorem adG_e (M : HM) (g c : Nat) (p : PT) : gta (adG M g c p) g = gta M g ∧ gva (adG M g c p) g = gva M g ∧ grd (adG M g c p) g = grd M g ∧ GR (adG M g c p) g = GR M g ∧ mK (adG M g c p) = mK M := ⟨rfl, rfl, rfl, rfl, rfl⟩
theorem GG.add {O : GH} {M : HM} {r g j : Nat} {l : List PT} {x y : Int32} (h : GG O M r g l x y j) (p : PT) (hl : l.length < 340) : GG O (adG M g l.length p) r g (l ++ [p]) x y j ∧ Fr (S3 g (gta M g) (gva M g)) O O M (adG M g l.length p) := by
  obtain ⟨⟨hR, hO, h1, h2, h3⟩, h4, h5, h6⟩ := h
  obtain ⟨e1, e2, e3, e4, e5⟩ := adG_e M g l.length p
  refine ⟨⟨⟨by rw [e4]; exact hR, by rw [e1, e2, e3]; exact hO, ?_, by rw [List.length_append]; exact hl, ?_⟩, ?_, ?_, ?_⟩, ?_⟩
  · unfold adG; simp only [hmI, and_self, if_true]; rw [List.length_append]; rfl
  · rw [e1, e2, List.length_append]
    show rdf _ 0 (l.length + 1) = _
    rw [rdf_snoc]
    congr 1
    · refine (rdf_ext (f := fun i => (aI M (gta M g) i, aL M (gva M g) i)) l.length 0 0 (fun i hi => ?_)).trans h3
      unfold adG
      simp only [haI, haL, true_and, Nat.zero_add]
      rw [if_neg (show ¬ i = l.length by omega), if_neg (show ¬ i = l.length by omega)]
    · unfold adG
      simp only [haI, haL, Nat.zero_add, and_self, if_true]
  · unfold adG; simp only [hmI, Nat.reduceEqDiff, false_and, if_false]; exact h4
  · unfold adG; simp only [hmI, Nat.reduceEqDiff, false_and, if_false]; exact h5
  · unfold adG; simp only [hmI, Nat.reduceEqDiff, false_and, if_false]; exact h6
  · refine fr_K e5 (fun a ha => ?_)
    have a1 : a ≠ g := fun e => ha (Or.inl e)
    have a2 : a ≠ gta M g := fun e => ha (Or.inr (Or.inl e))
    have a3 : a ≠ gva M g := fun e => ha (Or.inr (Or.inr e))
    exact sm_sI a1 (sm_tL a3 (sm_tI a2 Sm.rf))
theorem GG.nxt {O : GH} {M : HM} {r g j : Nat} {l : List PT} {x y : Int32} (h : GG O M r g l x y j) (i : Nat) : GG O (sI M 37 g (nI i)) r g l x y i ∧ Fr (S3 g (gta M g) (gva M g)) O O M (sI M 37 g (nI i)) := by
  obtain ⟨⟨hR, hO, h1, h2, h3⟩, h4, h5, h6⟩ := h
  refine ⟨⟨⟨hR, hO, ?_, h2, h3⟩, ?_, ?_, ?_⟩, fr_K rfl (fun a ha => sm_sI (fun e => ha (Or.inl e)) Sm.rf)⟩
  · simp only [hmI, Nat.reduceEqDiff, false_and, if_false]; exact h1
  · simp only [hmI, Nat.reduceEqDiff, false_and, if_false]; exact h4
  · simp only [hmI, Nat.reduceEqDiff, false_and, if_false]; exact h5
  · simp only [hmI, and_self, if_true]
/-- the frame of the gatherer leaves every series -/
theorem GG.ser {O O' : GH} {M N : HM} {r g j s : Nat} {l : List PT} {x y : Int32} (h : GG O M r g l x y j) (hF : Fr (S3 g (gta M g) (gva M g)) O O' M N) : Fr (Ss r) O O' M N := hF.sub (fun a _ hs => by
  rcases hs with rfl | rfl | rfl
  · exact h.1.2.1.1
  · exact h.1.2.1.2.1
  · exact h.1.2.1.2.2.1)
def tlb (lt : List PT) (a : List PT × Nat) (t : Int32) : List PT × Nat := (a.1 ++ (lt.drop a.2).take (lbl t (lt.drop a.2)), a.2 + lbl t (lt.drop a.2))
def eqT (lt : List PT) (j : Nat) (t : Int32) : Bool := match lt[j]? with
  | some q => decide (q.1 = t)
  | none => false
def gm (lt : List PT) (a : List PT × Nat) (p : PT) : List PT × Nat := if eqT lt (tlb lt a p.1).2 p.1 then tlb lt a p.1 else ((tlb lt a p.1).1 ++ [p], (tlb lt a p.1).2)
theorem tlb_no {lt : List PT} {a : List PT × Nat} {t : Int32} (h : ∀ q, lt[a.2]? = some q → ¬ q.1 < t) : tlb lt a t = a := by
  have : lbl t (lt.drop a.2) = 0 := by
    cases hd : lt.drop a.2 with
    | nil => rfl
    | cons q l =>
      rw [lbl, if_neg]
      apply h q
      have : (lt.drop a.2)[0]? = some q := by rw [hd]; rfl
      rw [List.getElem?_drop] at this
      exact this
  unfold tlb
  rw [this, List.take_zero, List.append_nil]; rfl
theorem tlb_yes {lt : List PT} {a : List PT × Nat} {t : Int32} {q : PT} (hq : lt[a.2]? = some q) (h : q.1 < t) : tlb lt a t = tlb lt (a.1 ++ [q], a.2 + 1) t := by
  have hd : lt.drop a.2 = q :: lt.drop (a.2 + 1) := by
    have hi := (List.getElem?_eq_some_iff.mp hq).1
    rw [List.drop_eq_getElem_cons hi]
    congr 1
    exact (List.getElem?_eq_some_iff.mp hq).2
  unfold tlb
  rw [hd, lbl, if_pos h, List.take_succ_cons, List.append_assoc]
  show (_, a.2 + (lbl t (lt.drop (a.2 + 1)) + 1)) = (_, a.2 + 1 + _)
  rw [show a.2 + (lbl t (lt.drop (a.2 + 1)) + 1) = a.2 + 1 + lbl t (lt.drop (a.2 + 1)) by omega]
  rfl
theorem tlb_le {lt : List PT} {a : List PT × Nat} (t : Int32) (h : a.2 ≤ lt.length) : (tlb lt a t).2 ≤ lt.length ∧ (tlb lt a t).1.length + (lt.length - (tlb lt a t).2) = a.1.length + (lt.length - a.2) := by
  have := lbl_le t (lt.drop a.2)
  rw [List.length_drop] at this
  unfold tlb
  refine ⟨by omega, ?_⟩
  show (a.1 ++ _).length + (lt.length - (a.2 + _)) = _
  rw [List.length_append, List.length_take, List.length_drop]
  omega
def csX1_takeLateBelow : CS := (cs_c 0 100 2 4 sp_X4_lateTime (cs_c 0 110 2 4 sp_X4_lateValue (cs_c 0 103 3 1 sp_X1_add cs_0)))
theorem csoX1_takeLateBelow : ∀ op x na cl sp, csX1_takeLateBelow op x = some (na, cl, sp) → CallOK 1 2 42 op x na cl sp := (cs_c_ok (caX1_takeLateBelow_100 okX4_lateTime) (cs_c_ok (caX1_takeLateBelow_110 okX4_lateValue) (cs_c_ok (caX1_takeLateBelow_103 okX1_add) cs_0_ok)))
theorem xcX1_takeLateBelow : (∀ (Q : QT) (G : GT) (pc : Nat) (L : LV) (a0 a1 : Value) (r : List Value) (M : HM) (k n : Nat), ex_i 1 3 0 false csX1_takeLateBelow Q G (.invokevirtual 100) pc L (a1 :: a0 :: r) M k n = (e_rm r ∧ e_rc M 4 [a0, a1] ∧ sp_X4_lateTime [a0, a1] M k n (fun v M' k' n' => G (pc + 3) L (v.toList ++ r) M' k' n'))) ∧ (∀ (Q : QT) (G : GT) (pc : Nat) (L : LV) (a0 a1 : Value) (r : List Value) (M : HM) (k n : Nat), ex_i 1 3 0 false csX1_takeLateBelow Q G (.invokevirtual 110) pc L (a1 :: a0 :: r) M k n = (e_rm r ∧ e_rc M 4 [a0, a1] ∧ sp_X4_lateValue [a0, a1] M k n (fun v M' k' n' => G (pc + 3) L (v.toList ++ r) M' k' n'))) ∧ (∀ (Q : QT) (G : GT) (pc : Nat) (L : LV) (a0 a1 a2 : Value) (r : List Value) (M : HM) (k n : Nat), ex_i 1 3 0 false csX1_takeLateBelow Q G (.invokevirtual 103) pc L (a2 :: a1 :: a0 :: r) M k n = (e_rm r ∧ e_rc M 1 [a0, a1, a2] ∧ sp_X1_add [a0, a1, a2] M k n (fun v M' k' n' => G (pc + 3) L (v.toList ++ r) M' k' n'))) := ⟨(fun _ _ _ _ _ _ _ _ _ _ => xv0_2 rfl), (fun _ _ _ _ _ _ _ _ _ _ => xv0_2 rfl), (fun _ _ _ _ _ _ _ _ _ _ _ => xv0_3 rfl)⟩
def sp_X1_takeLateBelow : SP := fun as M k n Q => match as with
  | [.ref g, .ref s, .int t] => ∃ O r acc x y j kd lab sp bk lt, GG O M r g acc x y j ∧ SRep O M s kd lab sp bk lt ∧ r ≠ s ∧ j ≤ lt.length ∧ acc.length + (lt.length - j) ≤ 340 ∧ ∀ M', GG O M' r g (tlb lt (acc, j) t).1 x y (tlb lt (acc, j) t).2 → gta M' g = gta M g ∧ gva M' g = gva M g ∧ grd M' g = grd M g → Fr (S3 g (gta M g) (gva M g)) O O M M' → Q none M' k n
  | _ => False
theorem okX1_takeLateBelow : OkX1_takeLateBelow sp_X1_takeLateBelow := by
  refine inX1_takeLateBelow csoX1_takeLateBelow ?_
  intro as M k n Q hsp
  unfold sp_X1_takeLateBelow at hsp
  split at hsp
  rotate_left
  · exact hsp.elim
  rename_i g s t
  obtain ⟨O, r, acc, x, y, j, kd, lab, sp, bk, lt, hg, hS, hrs, hj, hlen, hq⟩ := hsp
  have h40 := hS.2.2.2.2.2.1
  refine ⟨0, 0, Nat.zero_le _, Nat.zero_le _, Nat.le_of_ble_eq_true rfl, fun G hG => ?_⟩
  have loop : ∀ d acc' j' M', j' + d = lt.length → GG O M' r g acc' x y j' → gta M' g = gta M g ∧ gva M' g = gva M g ∧ grd M' g = grd M g → Fr (S3 g (gta M g) (gva M g)) O O M M' → tlb lt (acc', j') t = tlb lt (acc, j) t → acc'.length + (lt.length - j') ≤ 340 → G 0 [(0, .ref g), (1, .ref s), (2, .int t)] [] M' 0 0 := by
    intro d
    induction d with
    | zero =>
      intro acc' j' M' hj' hg' he hF' ht hl'
      have hS' := hS.frm (hg.ser (s := s) hF') (fun a o ho e => hrs (e.symm.trans ho))
      have s0 := hS'.1.1.1
      have sc := hS'.2.2.2.2.1
      have g0 := hg'.1.1.1
      have g4 := hg'.2.2.2
      have e1 : ¬ nI j' < nI lt.length := nI_nlt (by omega) (by omega)
      refine e_g2 hG [] 40 ?_
      simp only [e_wp_s, Option.getD_some, Option.isSome_some, Option.isSome_none, xis0, xis1, xis2, xis3, xis4, e_ks, lk_k, lk_c, List.lookup_nil, gt_c, vi_i, k1_n, k1_c, k2_n, k2_c, ar_n, ar_c, pk_n, pk_c, rm_0, rm_1, rm_2, rm_3, rm_4, rm_5, rc_9, rcs, fvs, rf_s, rf_n, isI_i, isL_l, isR_r, isR_n, isR_q, ct_i, ct_l, ct_r, ct_n, ct_q, tFs, tCs, tKs, tJs, tSs, e_nf, lgs, ↓reduceIte, true_and, and_true, false_and, and_false, or_true, true_or, false_or, or_false, Nat.reduceAdd, Nat.reduceEqDiff, Nat.reduceDiv, Nat.reduceLT, Nat.reduceLeDiff, Nat.zero_add, reduceCtorEq, Bool.false_eq_true, Option.toList_some, Option.toList_none, List.cons_append, List.nil_append, not_true_eq_false, not_false_eq_true, Nat.sub_zero, dsX1_takeLateBelow, jsX1_takeLateBelow, xcX1_takeLateBelow, g0, g4, s0, sc, e1]
      rw [tlb_no (a := (acc', j')) (fun q hx => by
        have hi : j' < lt.length := (List.getElem?_eq_some_iff.mp hx).1
        omega)] at ht
      rw [← ht] at hq
      exact hq M' hg' he hF'
    | succ d ih =>
      intro acc' j' M' hj' hg' he hF' ht hl'
      have hS' := hS.frm (hg.ser (s := s) hF') (fun a o ho e => hrs (e.symm.trans ho))
      have s0 := hS'.1.1.1
      have sR := hS'.1.1
      have sc := hS'.2.2.2.2.1
      have g0 := hg'.1.1.1
      have g1 := hg'.1.1
      have g4 := hg'.2.2.2
      have e1 : nI j' < nI lt.length := nI_lt (by omega) (by omega)
      obtain ⟨q, hx⟩ : ∃ q, lt[j']? = some q := ⟨_, List.getElem?_eq_getElem (by omega)⟩
      obtain ⟨w1, w2, w3, w4⟩ := hS'.ltA hx
      have f1 : ltF M' s (nI j') = q.1 := by rw [ltF_at sc h40 w3, w1]
      have f2 : lvF M' s (nI j') = q.2 := by rw [lvF_at sc h40 w3, w2]
      by_cases c : q.1 < t
      · obtain ⟨a1, a2⟩ := hg'.add q (by omega)
        obtain ⟨b1, b2⟩ := a1.nxt (j' + 1)
        have hc : mI M' 34 g = nI acc'.length := hg'.1.2.2.1
        have he2 : gta (sI (adG M' g acc'.length q) 37 g (nI (j' + 1))) g = gta M g ∧ gva (sI (adG M' g acc'.length q) 37 g (nI (j' + 1))) g = gva M g ∧ grd (sI (adG M' g acc'.length q) 37 g (nI (j' + 1))) g = grd M g := he
        obtain ⟨z1, z2, z3, z4, z5⟩ := adG_e M' g acc'.length q
        have hF2 : Fr (S3 g (gta M g) (gva M g)) O O M (sI (adG M' g acc'.length q) 37 g (nI (j' + 1))) := by
          rw [he.1, he.2.1] at a2
          rw [z1, z2, he.1, he.2.1] at b2
          exact (hF'.tr a2).tr b2
        have g5 : mK (adG M' g acc'.length q) g = 2 := by rw [z5]; exact g0
        have g6 : mI (adG M' g acc'.length q) 37 g = nI j' := by unfold adG; simp only [hmI, Nat.reduceEqDiff, false_and, if_false]; exact g4
        refine e_g2 hG [(43, [0, 1, 2])] 40 ?_
        simp only [e_wp_s, Option.getD_some, Option.isSome_some, Option.isSome_none, xis0, xis1, xis2, xis3, xis4, e_ks, lk_k, lk_c, List.lookup_nil, gt_c, vi_i, k1_n, k1_c, k2_n, k2_c, ar_n, ar_c, pk_n, pk_c, rm_0, rm_1, rm_2, rm_3, rm_4, rm_5, rc_9, rcs, fvs, rf_s, rf_n, isI_i, isL_l, isR_r, isR_n, isR_q, ct_i, ct_l, ct_r, ct_n, ct_q, tFs, tCs, tKs, tJs, tSs, e_nf, lgs, ↓reduceIte, true_and, and_true, false_and, and_false, or_true, true_or, false_or, or_false, Nat.reduceAdd, Nat.reduceEqDiff, Nat.reduceDiv, Nat.reduceLT, Nat.reduceLeDiff, Nat.zero_add, reduceCtorEq, Bool.false_eq_true, Option.toList_some, Option.toList_none, List.cons_append, List.nil_append, not_true_eq_false, not_false_eq_true, Nat.sub_zero, dsX1_takeLateBelow, jsX1_takeLateBelow, xcX1_takeLateBelow, g0, g1, g4, s0, sR, sc, e1, f1, f2, c, ↓sp_X4_lateTime, ↓sp_X4_lateValue]
        refine ⟨acc'.length, g1, hc, by omega, ?_⟩
        show G 43 _ _ (adG M' g acc'.length q) _ _
        refine e_g2 hG [(0, [0, 1, 2])] 40 ?_
        simp only [e_wp_s, Option.getD_some, Option.isSome_some, Option.isSome_none, xis0, xis1, xis2, xis3, xis4, e_ks, lk_k, lk_c, List.lookup_nil, gt_c, vi_i, k1_n, k1_c, k2_n, k2_c, ar_n, ar_c, pk_n, pk_c, rm_0, rm_1, rm_2, rm_3, rm_4, rm_5, rc_9, rcs, fvs, rf_s, rf_n, isI_i, isL_l, isR_r, isR_n, isR_q, ct_i, ct_l, ct_r, ct_n, ct_q, tFs, tCs, tKs, tJs, tSs, e_nf, lgs, ↓reduceIte, true_and, and_true, false_and, and_false, or_true, true_or, false_or, or_false, Nat.reduceAdd, Nat.reduceEqDiff, Nat.reduceDiv, Nat.reduceLT, Nat.reduceLeDiff, Nat.zero_add, reduceCtorEq, Bool.false_eq_true, Option.toList_some, Option.toList_none, List.cons_append, List.nil_append, not_true_eq_false, not_false_eq_true, Nat.sub_zero, dsX1_takeLateBelow, jsX1_takeLateBelow, xcX1_takeLateBelow, g5, g6, nI_1]
        refine ih (acc' ++ [q]) (j' + 1) _ (by omega) b1 he2 hF2 ?_ ?_
        · rw [← ht]; exact (tlb_yes (a := (acc', j')) hx c).symm
        · rw [List.length_append]; simp only [List.length_cons, List.length_nil]; omega
      · refine e_g2 hG [] 40 ?_
        simp only [e_wp_s, Option.getD_some, Option.isSome_some, Option.isSome_none, xis0, xis1, xis2, xis3, xis4, e_ks, lk_k, lk_c, List.lookup_nil, gt_c, vi_i, k1_n, k1_c, k2_n, k2_c, ar_n, ar_c, pk_n, pk_c, rm_0, rm_1, rm_2, rm_3, rm_4, rm_5, rc_9, rcs, fvs, rf_s, rf_n, isI_i, isL_l, isR_r, isR_n, isR_q, ct_i, ct_l, ct_r, ct_n, ct_q, tFs, tCs, tKs, tJs, tSs, e_nf, lgs, ↓reduceIte, true_and, and_true, false_and, and_false, or_true, true_or, false_or, or_false, Nat.reduceAdd, Nat.reduceEqDiff, Nat.reduceDiv, Nat.reduceLT, Nat.reduceLeDiff, Nat.zero_add, reduceCtorEq, Bool.false_eq_true, Option.toList_some, Option.toList_none, List.cons_append, List.nil_append, not_true_eq_false, not_false_eq_true, Nat.sub_zero, dsX1_takeLateBelow, jsX1_takeLateBelow, xcX1_takeLateBelow, g0, g1, g4, s0, sR, sc, e1, f1, f2, c, ↓sp_X4_lateTime, ↓sp_X4_lateValue]
        rw [tlb_no (a := (acc', j')) (fun q' hx' => by
          rw [show lt[(acc', j').2]? = lt[j']? from rfl, hx] at hx'
          cases hx'
          exact c)] at ht
        rw [← ht] at hq
        exact hq M' hg' he hF'
  exact loop (lt.length - j) acc j M (by omega) hg ⟨rfl, rfl, rfl⟩ Fr.rf rfl hlen
def csX1_takeMain : CS := (cs_c 0 66 3 1 sp_X1_takeLateBelow (cs_c 0 96 2 4 sp_X4_hasLate (cs_c 0 100 2 4 sp_X4_lateTime (cs_c 0 103 3 1 sp_X1_add cs_0))))
theorem csoX1_takeMain : ∀ op x na cl sp, csX1_takeMain op x = some (na, cl, sp) → CallOK 1 3 64 op x na cl sp := (cs_c_ok (caX1_takeMain_66 okX1_takeLateBelow) (cs_c_ok (caX1_takeMain_96 okX4_hasLate) (cs_c_ok (caX1_takeMain_100 okX4_lateTime) (cs_c_ok (caX1_takeMain_103 okX1_add) cs_0_ok))))
theorem xcX1_takeMain : (∀ (Q : QT) (G : GT) (pc : Nat) (L : LV) (a0 a1 a2 : Value) (r : List Value) (M : HM) (k n : Nat), ex_i 1 5 0 false csX1_takeMain Q G (.invokevirtual 66) pc L (a2 :: a1 :: a0 :: r) M k n = (e_rm r ∧ e_rc M 1 [a0, a1, a2] ∧ sp_X1_takeLateBelow [a0, a1, a2] M k n (fun v M' k' n' => G (pc + 3) L (v.toList ++ r) M' k' n'))) ∧ (∀ (Q : QT) (G : GT) (pc : Nat) (L : LV) (a0 a1 : Value) (r : List Value) (M : HM) (k n : Nat), ex_i 1 5 0 false csX1_takeMain Q G (.invokevirtual 96) pc L (a1 :: a0 :: r) M k n = (e_rm r ∧ e_rc M 4 [a0, a1] ∧ sp_X4_hasLate [a0, a1] M k n (fun v M' k' n' => G (pc + 3) L (v.toList ++ r) M' k' n'))) ∧ (∀ (Q : QT) (G : GT) (pc : Nat) (L : LV) (a0 a1 : Value) (r : List Value) (M : HM) (k n : Nat), ex_i 1 5 0 false csX1_takeMain Q G (.invokevirtual 100) pc L (a1 :: a0 :: r) M k n = (e_rm r ∧ e_rc M 4 [a0, a1] ∧ sp_X4_lateTime [a0, a1] M k n (fun v M' k' n' => G (pc + 3) L (v.toList ++ r) M' k' n'))) ∧ (∀ (Q : QT) (G : GT) (pc : Nat) (L : LV) (a0 a1 a2 : Value) (r : List Value) (M : HM) (k n : Nat), ex_i 1 5 0 false csX1_takeMain Q G (.invokevirtual 103) pc L (a2 :: a1 :: a0 :: r) M k n = (e_rm r ∧ e_rc M 1 [a0, a1, a2] ∧ sp_X1_add [a0, a1, a2] M k n (fun v M' k' n' => G (pc + 3) L (v.toList ++ r) M' k' n'))) := ⟨(fun _ _ _ _ _ _ _ _ _ _ _ => xv0_3 rfl), (fun _ _ _ _ _ _ _ _ _ _ => xv0_2 rfl), (fun _ _ _ _ _ _ _ _ _ _ => xv0_2 rfl), (fun _ _ _ _ _ _ _ _ _ _ _ => xv0_3 rfl)⟩
def sp_X1_takeMain : SP := fun as M k n Q => match as with
  | [.ref g, .ref s, .int t, .long v] => ∃ O r acc x y j kd lab sp bk lt, GG O M r g acc x y j ∧ SRep O M s kd lab sp bk lt ∧ r ≠ s ∧ j ≤ lt.length ∧ acc.length + (lt.length - j) < 340 ∧ ∀ M', GG O M' r g (gm lt (acc, j) (t, v)).1 x y (gm lt (acc, j) (t, v)).2 → gta M' g = gta M g ∧ gva M' g = gva M g ∧ grd M' g = grd M g → Fr (S3 g (gta M g) (gva M g)) O O M M' → Q none M' k n
  | _ => False
theorem okX1_takeMain : OkX1_takeMain sp_X1_takeMain := by
  refine inX1_takeMain csoX1_takeMain ?_
  intro as M k n Q hsp
  unfold sp_X1_takeMain at hsp
  split at hsp
  rotate_left
  · exact hsp.elim
  rename_i g s t v
  obtain ⟨O, r, acc, x, y, j, kd, lab, sp, bk, lt, hg, hS, hrs, hj, hlen, hq⟩ := hsp
  have h40 := hS.2.2.2.2.2.1
  have g0 := hg.1.1.1
  obtain ⟨q1, q2⟩ := tlb_le (a := (acc, j)) t hj
  refine ⟨0, 0, Nat.zero_le _, Nat.zero_le _, Nat.le_of_ble_eq_true rfl, fun G hG => ?_⟩
  refine e_g2 hG [(6, [0, 1, 2, 3])] 40 ?_
  simp only [e_wp_s, Option.getD_some, Option.isSome_some, Option.isSome_none, xis0, xis1, xis2, xis3, xis4, e_ks, lk_k, lk_c, List.lookup_nil, gt_c, vi_i, k1_n, k1_c, k2_n, k2_c, ar_n, ar_c, pk_n, pk_c, rm_0, rm_1, rm_2, rm_3, rm_4, rm_5, rc_9, rcs, fvs, rf_s, rf_n, isI_i, isL_l, isR_r, isR_n, isR_q, ct_i, ct_l, ct_r, ct_n, ct_q, tFs, tCs, tKs, tJs, tSs, e_nf, lgs, ↓reduceIte, true_and, and_true, false_and, and_false, or_true, true_or, false_or, or_false, Nat.reduceAdd, Nat.reduceEqDiff, Nat.reduceDiv, Nat.reduceLT, Nat.reduceLeDiff, Nat.zero_add, reduceCtorEq, Bool.false_eq_true, Option.toList_some, Option.toList_none, List.cons_append, List.nil_append, not_true_eq_false, not_false_eq_true, Nat.sub_zero, dsX1_takeMain, jsX1_takeMain, xcX1_takeMain, g0]
  refine ⟨O, r, acc, x, y, j, kd, lab, sp, bk, lt, hg, hS, hrs, hj, by omega, fun M' hg' he hF' => ?_⟩
  have hS' := hS.frm (hg.ser (s := s) hF') (fun a o ho e => hrs (e.symm.trans ho))
  have s0 := hS'.1.1.1
  have sR := hS'.1.1
  have sc := hS'.2.2.2.2.1
  have k0 := hg'.1.1.1
  have k1 := hg'.1.1
  have k4 := hg'.2.2.2
  have kc : mI M' 34 g = nI (tlb lt (acc, j) t).1.length := hg'.1.2.2.1
  unfold gm at hq
  generalize hT : tlb lt (acc, j) t = T at *
  have e0 : ¬ nI T.2 < 0 := nI_pos (by omega)
  have fin : eqT lt T.2 t = false → G 30 [(0, .ref g), (2, .int t), (3, .long v)] [] M' 0 0 := by
    intro hf
    rw [if_neg (by show ¬ eqT lt T.2 t = true; rw [hf]; decide)] at hq
    obtain ⟨a1, a2⟩ := hg'.add (t, v) (by
      have : (acc, j).1.length + (lt.length - (acc, j).2) < 340 := hlen
      omega)
    obtain ⟨z1, z2, z3, z4, z5⟩ := adG_e M' g T.1.length (t, v)
    rw [he.1, he.2.1] at a2
    refine e_g2 hG [(36, [])] 40 ?_
    simp only [e_wp_s, Option.getD_some, Option.isSome_some, Option.isSome_none, xis0, xis1, xis2, xis3, xis4, e_ks, lk_k, lk_c, List.lookup_nil, gt_c, vi_i, k1_n, k1_c, k2_n, k2_c, ar_n, ar_c, pk_n, pk_c, rm_0, rm_1, rm_2, rm_3, rm_4, rm_5, rc_9, rcs, fvs, rf_s, rf_n, isI_i, isL_l, isR_r, isR_n, isR_q, ct_i, ct_l, ct_r, ct_n, ct_q, tFs, tCs, tKs, tJs, tSs, e_nf, lgs, ↓reduceIte, true_and, and_true, false_and, and_false, or_true, true_or, false_or, or_false, Nat.reduceAdd, Nat.reduceEqDiff, Nat.reduceDiv, Nat.reduceLT, Nat.reduceLeDiff, Nat.zero_add, reduceCtorEq, Bool.false_eq_true, Option.toList_some, Option.toList_none, List.cons_append, List.nil_append, not_true_eq_false, not_false_eq_true, Nat.sub_zero, dsX1_takeMain, jsX1_takeMain, xcX1_takeMain, k0]
    refine ⟨T.1.length, k1, kc, by
      have : (acc, j).1.length + (lt.length - (acc, j).2) < 340 := hlen
      omega, ?_⟩
    show G 36 _ _ (adG M' g T.1.length (t, v)) _ _
    refine e_g2 hG [] 40 ?_
    simp only [e_wp_s, Option.getD_some, Option.isSome_some, Option.isSome_none, xis0, xis1, xis2, xis3, xis4, e_ks, lk_k, lk_c, List.lookup_nil, gt_c, vi_i, k1_n, k1_c, k2_n, k2_c, ar_n, ar_c, pk_n, pk_c, rm_0, rm_1, rm_2, rm_3, rm_4, rm_5, rc_9, rcs, fvs, rf_s, rf_n, isI_i, isL_l, isR_r, isR_n, isR_q, ct_i, ct_l, ct_r, ct_n, ct_q, tFs, tCs, tKs, tJs, tSs, e_nf, lgs, ↓reduceIte, true_and, and_true, false_and, and_false, or_true, true_or, false_or, or_false, Nat.reduceAdd, Nat.reduceEqDiff, Nat.reduceDiv, Nat.reduceLT, Nat.reduceLeDiff, Nat.zero_add, reduceCtorEq, Bool.false_eq_true, Option.toList_some, Option.toList_none, List.cons_append, List.nil_append, not_true_eq_false, not_false_eq_true, Nat.sub_zero, dsX1_takeMain, jsX1_takeMain, xcX1_takeMain]
    exact hq _ a1 he (hF'.tr a2)
  by_cases cl : T.2 < lt.length
  · obtain ⟨q, hx⟩ : ∃ q, lt[T.2]? = some q := ⟨_, List.getElem?_eq_getElem cl⟩
    obtain ⟨w1, w2, w3, w4⟩ := hS'.ltA hx
    have f1 : ltF M' s (nI T.2) = q.1 := by rw [ltF_at sc h40 w3, w1]
    have e1 : nI T.2 < nI lt.length := nI_lt cl (by omega)
    have e2 : nI T.2 < 40 := nI_lt (b := 40) w4 (by decide)
    have hE : eqT lt T.2 t = decide (q.1 = t) := by unfold eqT; rw [hx]
    by_cases c : q.1 = t
    · rw [if_pos (by show eqT lt T.2 t = true; rw [hE]; exact decide_eq_true c)] at hq
      refine e_g2 hG [] 40 ?_
      simp only [e_wp_s, Option.getD_some, Option.isSome_some, Option.isSome_none, xis0, xis1, xis2, xis3, xis4, e_ks, lk_k, lk_c, List.lookup_nil, gt_c, vi_i, k1_n, k1_c, k2_n, k2_c, ar_n, ar_c, pk_n, pk_c, rm_0, rm_1, rm_2, rm_3, rm_4, rm_5, rc_9, rcs, fvs, rf_s, rf_n, isI_i, isL_l, isR_r, isR_n, isR_q, ct_i, ct_l, ct_r, ct_n, ct_q, tFs, tCs, tKs, tJs, tSs, e_nf, lgs, ↓reduceIte, true_and, and_true, false_and, and_false, or_true, true_or, false_or, or_false, Nat.reduceAdd, Nat.reduceEqDiff, Nat.reduceDiv, Nat.reduceLT, Nat.reduceLeDiff, Nat.zero_add, reduceCtorEq, Bool.false_eq_true, Option.toList_some, Option.toList_none, List.cons_append, List.nil_append, not_true_eq_false, not_false_eq_true, Nat.sub_zero, dsX1_takeMain, jsX1_takeMain, xcX1_takeMain, k0, k4, s0, sR, sc, e0, e1, e2, f1, c, i10, ↓sp_X4_hasLate, ↓sp_X4_lateTime]
      exact hq _ hg' he hF'
    · refine e_g2 hG [(30, [0, 2, 3])] 40 ?_
      simp only [e_wp_s, Option.getD_some, Option.isSome_some, Option.isSome_none, xis0, xis1, xis2, xis3, xis4, e_ks, lk_k, lk_c, List.lookup_nil, gt_c, vi_i, k1_n, k1_c, k2_n, k2_c, ar_n, ar_c, pk_n, pk_c, rm_0, rm_1, rm_2, rm_3, rm_4, rm_5, rc_9, rcs, fvs, rf_s, rf_n, isI_i, isL_l, isR_r, isR_n, isR_q, ct_i, ct_l, ct_r, ct_n, ct_q, tFs, tCs, tKs, tJs, tSs, e_nf, lgs, ↓reduceIte, true_and, and_true, false_and, and_false, or_true, true_or, false_or, or_false, Nat.reduceAdd, Nat.reduceEqDiff, Nat.reduceDiv, Nat.reduceLT, Nat.reduceLeDiff, Nat.zero_add, reduceCtorEq, Bool.false_eq_true, Option.toList_some, Option.toList_none, List.cons_append, List.nil_append, not_true_eq_false, not_false_eq_true, Nat.sub_zero, dsX1_takeMain, jsX1_takeMain, xcX1_takeMain, k0, k4, s0, sR, sc, e0, e1, e2, f1, c, i10, ↓sp_X4_hasLate, ↓sp_X4_lateTime]
      exact fin (by rw [hE]; exact decide_eq_false c)
  · have e1 : ¬ nI T.2 < nI lt.length := nI_nlt (by omega) (by omega)
    refine e_g2 hG [(30, [0, 2, 3])] 40 ?_
    simp only [e_wp_s, Option.getD_some, Option.isSome_some, Option.isSome_none, xis0, xis1, xis2, xis3, xis4, e_ks, lk_k, lk_c, List.lookup_nil, gt_c, vi_i, k1_n, k1_c, k2_n, k2_c, ar_n, ar_c, pk_n, pk_c, rm_0, rm_1, rm_2, rm_3, rm_4, rm_5, rc_9, rcs, fvs, rf_s, rf_n, isI_i, isL_l, isR_r, isR_n, isR_q, ct_i, ct_l, ct_r, ct_n, ct_q, tFs, tCs, tKs, tJs, tSs, e_nf, lgs, ↓reduceIte, true_and, and_true, false_and, and_false, or_true, true_or, false_or, or_false, Nat.reduceAdd, Nat.reduceEqDiff, Nat.reduceDiv, Nat.reduceLT, Nat.reduceLeDiff, Nat.zero_add, reduceCtorEq, Bool.false_eq_true, Option.toList_some, Option.toList_none, List.cons_append, List.nil_append, not_true_eq_false, not_false_eq_true, Nat.sub_zero, dsX1_takeMain, jsX1_takeMain, xcX1_takeMain, k0, k4, s0, sR, sc, e0, e1, ↓sp_X4_hasLate]
    exact fin (by unfold eqT; rw [List.getElem?_eq_none (by omega)])
