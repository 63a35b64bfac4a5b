/-! Question: what it found; spans looked at -/
abbrev QV : Type := Nat × Int64 × Option Int64 × Option Int64
def omn : Option Int64 → Option Int64 → Option Int64
  | none, y => y
  | some a, none => some a
  | some a, some b => some (if b < a then b else a)
def omx : Option Int64 → Option Int64 → Option Int64
  | none, y => y
  | some a, none => some a
  | some a, some b => some (if b < a then a else b)
def qadd (u v : QV) : QV := (u.1 + v.1, u.2.1 + v.2.1, omn u.2.2.1 v.2.2.1, omx u.2.2.2 v.2.2.2)
def q0 : QV := (0, 0, none, none)
def qfold {α : Type} (f : α → QV) (u : QV) (l : List α) : QV := l.foldl (fun u x => qadd u (f x)) u
theorem qadd_0 (u : QV) : qadd u q0 = u := by
  obtain ⟨a, b, c, d⟩ := u
  unfold qadd q0
  show (a + 0, b + 0, omn c none, omx d none) = _
  rw [Nat.add_zero, Int64.add_zero]
  cases c <;> cases d <;> rfl
theorem qfold_snoc {α : Type} (f : α → QV) (u : QV) (l : List α) (x : α) : qfold f u (l ++ [x]) = qadd (qfold f u l) (f x) := by
  unfold qfold; rw [List.foldl_append]; rfl
theorem qfold_le {α : Type} (f : α → QV) (B : Nat) : ∀ (l : List α) (u : QV), (∀ x, x ∈ l → (f x).1 ≤ B) → (qfold f u l).1 ≤ u.1 + B * l.length
  | [], u, _ => Nat.le_refl _
  | x :: l, u, h => by
    have h1 := qfold_le f B l (qadd u (f x)) (fun y hy => h y (List.mem_cons_of_mem _ hy))
    have h2 := h x List.mem_cons_self
    have h3 : (qadd u (f x)).1 = u.1 + (f x).1 := rfl
    rw [h3] at h1
    show (qfold f (qadd u (f x)) l).1 ≤ _
    rw [List.length_cons, Nat.mul_add]
    omega
def QR (M : HM) (q : Nat) (a b : Int32) (u : QV) (sc ct tr : Nat) : Prop := mK M q = 3 ∧ mI M 64 q = a ∧ mI M 65 q = b ∧ mI M 66 q = nI u.1 ∧ mL M 67 q = u.2.1 ∧ ((u.2.2.1 = none ∧ u.2.2.2 = none ∧ u.1 = 0) ∨ (u.2.2.1 = some (mL M 68 q) ∧ u.2.2.2 = some (mL M 69 q) ∧ 0 < u.1)) ∧ u.1 < 2 ^ 31 ∧ mI M 70 q = nI sc ∧ mI M 71 q = nI ct ∧ mI M 72 q = nI tr
theorem QR.frm {M N : HM} {q : Nat} {a b : Int32} {u : QV} {sc ct tr : Nat} (h : QR M q a b u sc ct tr) (hs : Sm q M N) : QR N q a b u sc ct tr := by
  obtain ⟨h1, h2, h3, h4, h5, h6, h7, h8, h9, h10⟩ := h
  obtain ⟨s1, -, eI, eL, -⟩ := hs
  exact ⟨s1.trans h1, (eI _).trans h2, (eI _).trans h3, (eI _).trans h4, (eL _).trans h5, by rw [eL, eL]; exact h6, h7, (eI _).trans h8, (eI _).trans h9, (eI _).trans h10⟩
theorem QR.fd {M : HM} {q : Nat} {a b : Int32} {u : QV} {sc ct tr m : Nat} (h : QR M q a b u sc ct tr) (t lo hi : Int64) (hm : 0 < m) (hb : u.1 + m < 2 ^ 31) : QR (fdM M q (nI m) t lo hi) q a b (qadd u (m, t, some lo, some hi)) sc ct tr := by
  obtain ⟨h1, h2, h3, h4, h5, h6, h7, h8, h9, h10⟩ := h
  unfold fdM
  refine ⟨h1, ?_, ?_, ?_, ?_, Or.inr ⟨?_, ?_, ?_⟩, hb, ?_, ?_, ?_⟩
  · simp only [hmI, Nat.reduceEqDiff, false_and, if_false]; exact h2
  · simp only [hmI, Nat.reduceEqDiff, false_and, if_false]; exact h3
  · simp only [hmI, Nat.reduceEqDiff, false_and, and_self, if_false, if_true]; rw [h4, nI_add]; rfl
  · simp only [hmL, and_self, if_true]; rw [h5]; rfl
  · simp only [hmL, Nat.reduceEqDiff, false_and, and_self, if_false, if_true]
    show omn u.2.2.1 (some lo) = _
    rcases h6 with ⟨z1, z2, z3⟩ | ⟨z1, z2, z3⟩
    · rw [z1, if_pos (by rw [h4, z3]; rfl)]; rfl
    · rw [z1, if_neg (by rw [h4]; exact nI_ne0 z3 h7)]; rfl
  · simp only [hmL, Nat.reduceEqDiff, false_and, and_self, if_false, if_true]
    show omx u.2.2.2 (some hi) = _
    rcases h6 with ⟨z1, z2, z3⟩ | ⟨z1, z2, z3⟩
    · rw [z2, if_pos (by rw [h4, z3]; rfl)]; rfl
    · rw [z2, if_neg (by rw [h4]; exact nI_ne0 z3 h7)]; rfl
  · show 0 < u.1 + m; omega
  · simp only [hmI, Nat.reduceEqDiff, false_and, if_false]; exact h8
  · simp only [hmI, Nat.reduceEqDiff, false_and, if_false]; exact h9
  · simp only [hmI, Nat.reduceEqDiff, false_and, if_false]; exact h10
theorem fdM_fr {O : GH} {M : HM} {q r : Nat} {c : Int32} {t lo hi : Int64} (hr : (O q).1 = r) : Fr (Ss r) O O M (fdM M q c t lo hi) := fr_K rfl (fun a ha => by
  have a1 : a ≠ q := fun e => ha (by show (O a).1 = r; rw [e]; exact hr)
  unfold fdM
  exact sm_sL a1 (sm_sI a1 (sm_sL a1 (sm_sL a1 Sm.rf))))
theorem QR.s70 {M : HM} {q : Nat} {a b : Int32} {u : QV} {sc ct tr m : Nat} (h : QR M q a b u sc ct tr) : QR (sI M 70 q (nI m)) q a b u m ct tr := by
  obtain ⟨h1, h2, h3, h4, h5, h6, h7, h8, h9, h10⟩ := h
  refine ⟨h1, ?_, ?_, ?_, h5, h6, h7, ?_, ?_, ?_⟩ <;> simp only [hmI, Nat.reduceEqDiff, false_and, and_self, if_false, if_true] <;> assumption
theorem QR.s71 {M : HM} {q : Nat} {a b : Int32} {u : QV} {sc ct tr m : Nat} (h : QR M q a b u sc ct tr) : QR (sI M 71 q (nI m)) q a b u sc m tr := by
  obtain ⟨h1, h2, h3, h4, h5, h6, h7, h8, h9, h10⟩ := h
  refine ⟨h1, ?_, ?_, ?_, h5, h6, h7, ?_, ?_, ?_⟩ <;> simp only [hmI, Nat.reduceEqDiff, false_and, and_self, if_false, if_true] <;> assumption
theorem QR.s72 {M : HM} {q : Nat} {a b : Int32} {u : QV} {sc ct tr m : Nat} (h : QR M q a b u sc ct tr) : QR (sI M 72 q (nI m)) q a b u sc ct m := by
  obtain ⟨h1, h2, h3, h4, h5, h6, h7, h8, h9, h10⟩ := h
  refine ⟨h1, ?_, ?_, ?_, h5, h6, h7, ?_, ?_, ?_⟩ <;> simp only [hmI, Nat.reduceEqDiff, false_and, and_self, if_false, if_true] <;> assumption
theorem s7_fr {O : GH} {M : HM} {q r f : Nat} {v : Int32} (hr : (O q).1 = r) : Fr (Ss r) O O M (sI M f q v) := fr_K rfl (fun a ha => sm_sI (fun e => ha (by show (O a).1 = r; rw [e]; exact hr)) Sm.rf)
def szN (x : SPN) : Nat := x.2.2.1.toNatClampNeg
def inSp (a b : Int32) (x : SPN) : Bool := decide (¬ x.1 < a) && decide (¬ b < x.2.1)
def cuSp (a b : Int32) (x : SPN) : Bool := !inSp a b x && (decide (x.1 < b) && decide (a < x.2.1))
def spQ (a b : Int32) (x : SPN) : QV := if inSp a b x then (szN x, x.2.2.2.1, some x.2.2.2.2.1, some x.2.2.2.2.2.1) else q0
def cnt {α : Type} (f : α → Bool) (l : List α) : Nat := (l.filter f).length
theorem cnt_take {α : Type} {f : α → Bool} {l : List α} {i : Nat} {x : α} (hx : l[i]? = some x) : cnt f (l.take (i + 1)) = cnt f (l.take i) + if f x then 1 else 0 := by
  unfold cnt
  rw [take_f hx, List.length_append]
  split <;> rfl
def csX2_lookAtSpans : CS := (cs_c 0 102 2 4 sp_X4_spanAt (cs_c 0 106 3 5 sp_X5_isIn (cs_c 0 83 5 2 sp_X2_found (cs_c 0 115 3 5 sp_X5_isCut cs_0))))
theorem csoX2_lookAtSpans : ∀ op x na cl sp, csX2_lookAtSpans op x = some (na, cl, sp) → CallOK 2 2 50 op x na cl sp := (cs_c_ok (caX2_lookAtSpans_102 okX4_spanAt) (cs_c_ok (caX2_lookAtSpans_106 okX5_isIn) (cs_c_ok (caX2_lookAtSpans_83 okX2_found) (cs_c_ok (caX2_lookAtSpans_115 okX5_isCut) cs_0_ok))))
theorem xcX2_lookAtSpans : (∀ (Q : QT) (G : GT) (pc : Nat) (L : LV) (a0 a1 : Value) (r : List Value) (M : HM) (k n : Nat), ex_i 2 4 0 false csX2_lookAtSpans Q G (.invokevirtual 102) pc L (a1 :: a0 :: r) M k n = (e_rm r ∧ e_rc M 4 [a0, a1] ∧ sp_X4_spanAt [a0, a1] M k n (fun v M' k' n' => G (pc + 3) L (v.toList ++ r) M' k' n'))) ∧ (∀ (Q : QT) (G : GT) (pc : Nat) (L : LV) (a0 a1 a2 : Value) (r : List Value) (M : HM) (k n : Nat), ex_i 2 4 0 false csX2_lookAtSpans Q G (.invokevirtual 106) pc L (a2 :: a1 :: a0 :: r) M k n = (e_rm r ∧ e_rc M 5 [a0, a1, a2] ∧ sp_X5_isIn [a0, a1, a2] M k n (fun v M' k' n' => G (pc + 3) L (v.toList ++ r) M' k' n'))) ∧ (∀ (Q : QT) (G : GT) (pc : Nat) (L : LV) (a0 a1 a2 a3 a4 : Value) (r : List Value) (M : HM) (k n : Nat), ex_i 2 4 0 false csX2_lookAtSpans Q G (.invokevirtual 83) pc L (a4 :: a3 :: a2 :: a1 :: a0 :: r) M k n = (e_rm r ∧ e_rc M 2 [a0, a1, a2, a3, a4] ∧ sp_X2_found [a0, a1, a2, a3, a4] M k n (fun v M' k' n' => G (pc + 3) L (v.toList ++ r) M' k' n'))) ∧ (∀ (Q : QT) (G : GT) (pc : Nat) (L : LV) (a0 a1 a2 : Value) (r : List Value) (M : HM) (k n : Nat), ex_i 2 4 0 false csX2_lookAtSpans Q G (.invokevirtual 115) pc L (a2 :: a1 :: a0 :: r) M k n = (e_rm r ∧ e_rc M 5 [a0, a1, a2] ∧ sp_X5_isCut [a0, a1, a2] M k n (fun v M' k' n' => G (pc + 3) L (v.toList ++ r) M' k' n'))) := ⟨(fun _ _ _ _ _ _ _ _ _ _ => xv0_2 rfl), (fun _ _ _ _ _ _ _ _ _ _ _ => xv0_3 rfl), (fun _ _ _ _ _ _ _ _ _ _ _ _ _ => xv0_5 rfl), (fun _ _ _ _ _ _ _ _ _ _ _ => xv0_3 rfl)⟩
def sp_X2_lookAtSpans : SP := fun as M k n Q => match as with
  | [.ref q, .ref s] => ∃ O rq a b u sc ct tr kd lab sp bk lt, QR M q a b u sc ct tr ∧ SRep O M s kd lab sp bk lt ∧ (O q).1 = rq ∧ rq ≠ s ∧ szOK 400 sp ∧ u.1 + 24000 < 2 ^ 31 ∧ ∀ M', QR M' q a b (qfold (spQ a b) u sp) sc (ct + cnt (cuSp a b) sp) tr → Fr (Ss rq) O O M M' → Q none M' k n
  | _ => False
theorem okX2_lookAtSpans : OkX2_lookAtSpans sp_X2_lookAtSpans := by
  refine inX2_lookAtSpans csoX2_lookAtSpans ?_
  intro as M k n Q hsp
  unfold sp_X2_lookAtSpans at hsp
  split at hsp
  rotate_left
  · exact hsp.elim
  rename_i q s
  obtain ⟨O, rq, a, b, u, sc, ct, tr, kd, lab, sp, bk, lt, hQ, hS, hrq, hrs, hz, hu, hq⟩ := hsp
  have hsr : ∀ a o, o.1 = s → ¬ Ss rq a o := fun a o ho e => hrs (e.symm.trans ho)
  have h60 := hS.2.2.1.2.1
  refine ⟨0, 0, Nat.zero_le _, Nat.zero_le _, Nat.le_of_ble_eq_true rfl, fun G hG => ?_⟩
  have loop : ∀ d i M', i + d = sp.length → QR M' q a b (qfold (spQ a b) u (sp.take i)) sc (ct + cnt (cuSp a b) (sp.take i)) tr → Fr (Ss rq) O O M M' → G 2 [(0, .ref q), (1, .ref s), (2, .int (nI i))] [] M' 0 0 := by
    intro d
    induction d with
    | zero =>
      intro i M' hi hQ' hF'
      have hS' := hS.frm hF' hsr
      have s0 := hS'.1.1.1
      have sc' := hS'.2.2.1.1
      have e1 : ¬ nI i < nI sp.length := nI_nlt (by omega) (by omega)
      refine e_g2 hG [] 40 ?_
      simp only [e_wp_s, Option.getD_some, Option.isSome_some, Option.isSome_none, xis0, xis1, xis2, xis3, xis4, e_ks, lk_k, lk_c, List.lookup_nil, gt_c, vi_i, k1_n, k1_c, k2_n, k2_c, ar_n, ar_c, pk_n, pk_c, rm_0, rm_1, rm_2, rm_3, rm_4, rm_5, rc_9, rcs, fvs, rf_s, rf_n, isI_i, isL_l, isR_r, isR_n, isR_q, ct_i, ct_l, ct_r, ct_n, ct_q, tFs, tCs, tKs, tJs, tSs, e_nf, lgs, ↓reduceIte, true_and, and_true, false_and, and_false, or_true, true_or, false_or, or_false, Nat.reduceAdd, Nat.reduceEqDiff, Nat.reduceDiv, Nat.reduceLT, Nat.reduceLeDiff, Nat.zero_add, reduceCtorEq, Bool.false_eq_true, Option.toList_some, Option.toList_none, List.cons_append, List.nil_append, not_true_eq_false, not_false_eq_true, Nat.sub_zero, dsX2_lookAtSpans, jsX2_lookAtSpans, xcX2_lookAtSpans, s0, sc', e1]
      rw [show i = sp.length by omega, List.take_length] at hQ'
      exact hq M' hQ' hF'
    | succ d ih =>
      intro i M' hi hQ' hF'
      have hS' := hS.frm hF' hsr
      have s0 := hS'.1.1.1
      have sR := hS'.1.1
      have sc' := hS'.2.2.1.1
      have e1 : nI i < nI sp.length := nI_lt (by omega) (by omega)
      obtain ⟨x, hx⟩ : ∃ x, sp[i]? = some x := ⟨_, List.getElem?_eq_getElem (by omega)⟩
      obtain ⟨p, fp, -, hp, pk, -⟩ := hS'.sAt hx
      obtain ⟨p1, p2, p3, p4, p5, p6, -, -⟩ := id hp
      obtain ⟨k0, k1, k2, -⟩ := id hQ'
      have kct := hQ'.2.2.2.2.2.2.2.2.1
      have ih2 := ih (i + 1)
      rw [take_1 hx, qfold_snoc, ← take_1 hx, cnt_take hx] at ih2
      obtain ⟨m, z1, z2, z3⟩ := hz x (List.mem_of_getElem? hx)
      have hsz : szN x = m := by unfold szN; rw [z1, nI_clamp (by omega)]
      have hsm : ∀ y, y ∈ sp.take i → (spQ a b y).1 ≤ 400 := fun y hy => by
        obtain ⟨m', w1, w2, w3⟩ := hz y (List.mem_of_mem_take hy)
        unfold spQ
        split
        · show szN y ≤ 400
          unfold szN; rw [w1, nI_clamp (by omega)]; exact w3
        · exact Nat.zero_le _
      have hle := qfold_le (spQ a b) 400 (sp.take i) u hsm
      rw [List.length_take] at hle
      by_cases c1 : ¬ x.1 < a ∧ ¬ b < x.2.1
      · have ci : inSp a b x = true := by unfold inSp; simp [c1.1, c1.2]
        have cc : cuSp a b x = false := by unfold cuSp; simp [ci]
        have hf : spQ a b x = (m, x.2.2.2.1, some x.2.2.2.2.1, some x.2.2.2.2.2.1) := by unfold spQ; rw [if_pos ci, hsz]
        rw [hf, if_neg (by rw [cc]; decide), Nat.add_zero] at ih2
        have hfd := hQ'.fd x.2.2.2.1 x.2.2.2.2.1 x.2.2.2.2.2.1 z2 (by omega)
        refine e_g2 hG [(2, [0, 1, 2])] 60 ?_
        simp only [e_wp_s, Option.getD_some, Option.isSome_some, Option.isSome_none, xis0, xis1, xis2, xis3, xis4, e_ks, lk_k, lk_c, List.lookup_nil, gt_c, vi_i, k1_n, k1_c, k2_n, k2_c, ar_n, ar_c, pk_n, pk_c, rm_0, rm_1, rm_2, rm_3, rm_4, rm_5, rc_9, rcs, fvs, rf_s, rf_n, isI_i, isL_l, isR_r, isR_n, isR_q, ct_i, ct_l, ct_r, ct_n, ct_q, tFs, tCs, tKs, tJs, tSs, e_nf, lgs, ↓reduceIte, true_and, and_true, false_and, and_false, or_true, true_or, false_or, or_false, Nat.reduceAdd, Nat.reduceEqDiff, Nat.reduceDiv, Nat.reduceLT, Nat.reduceLeDiff, Nat.zero_add, reduceCtorEq, Bool.false_eq_true, Option.toList_some, Option.toList_none, List.cons_append, List.nil_append, not_true_eq_false, not_false_eq_true, Nat.sub_zero, dsX2_lookAtSpans, jsX2_lookAtSpans, xcX2_lookAtSpans, s0, sR, sc', e1, fp, pk, p1, p2, p3, p4, p5, p6, k0, k1, k2, c1, z1, i10, nI_1, ↓sp_X4_spanAt, ↓sp_X5_isIn, ↓sp_X2_found]
        exact ih2 _ (by omega) hfd (hF'.tr (fdM_fr hrq))
      · have ci : inSp a b x = false := by
          unfold inSp
          rcases Decidable.not_and_iff_not_or_not.mp c1 with z | z
          · simp only [Decidable.not_not] at z; simp [z]
          · simp only [Decidable.not_not] at z; simp [z]
        have hf : spQ a b x = q0 := by unfold spQ; rw [if_neg (by rw [ci]; decide)]
        rw [hf, qadd_0] at ih2
        by_cases c2 : x.1 < b ∧ a < x.2.1
        · have cc : cuSp a b x = true := by unfold cuSp; simp [ci, c2.1, c2.2]
          rw [if_pos cc] at ih2
          refine e_g2 hG [(2, [0, 1, 2])] 60 ?_
          simp only [e_wp_s, Option.getD_some, Option.isSome_some, Option.isSome_none, xis0, xis1, xis2, xis3, xis4, e_ks, lk_k, lk_c, List.lookup_nil, gt_c, vi_i, k1_n, k1_c, k2_n, k2_c, ar_n, ar_c, pk_n, pk_c, rm_0, rm_1, rm_2, rm_3, rm_4, rm_5, rc_9, rcs, fvs, rf_s, rf_n, isI_i, isL_l, isR_r, isR_n, isR_q, ct_i, ct_l, ct_r, ct_n, ct_q, tFs, tCs, tKs, tJs, tSs, e_nf, lgs, ↓reduceIte, true_and, and_true, false_and, and_false, or_true, true_or, false_or, or_false, Nat.reduceAdd, Nat.reduceEqDiff, Nat.reduceDiv, Nat.reduceLT, Nat.reduceLeDiff, Nat.zero_add, reduceCtorEq, Bool.false_eq_true, Option.toList_some, Option.toList_none, List.cons_append, List.nil_append, not_true_eq_false, not_false_eq_true, Nat.sub_zero, dsX2_lookAtSpans, jsX2_lookAtSpans, xcX2_lookAtSpans, s0, sR, sc', e1, fp, pk, p1, p2, k0, k1, k2, kct, c1, c2, i10, nI_1, ↓sp_X4_spanAt, ↓sp_X5_isIn, ↓sp_X5_isCut]
          exact ih2 _ (by omega) hQ'.s71 (hF'.tr (s7_fr hrq))
        · have cc : cuSp a b x = false := by
            unfold cuSp
            rcases Decidable.not_and_iff_not_or_not.mp c2 with z | z <;> simp [ci, z]
          rw [if_neg (by rw [cc]; decide), Nat.add_zero] at ih2
          refine e_g2 hG [(2, [0, 1, 2])] 60 ?_
          simp only [e_wp_s, Option.getD_some, Option.isSome_some, Option.isSome_none, xis0, xis1, xis2, xis3, xis4, e_ks, lk_k, lk_c, List.lookup_nil, gt_c, vi_i, k1_n, k1_c, k2_n, k2_c, ar_n, ar_c, pk_n, pk_c, rm_0, rm_1, rm_2, rm_3, rm_4, rm_5, rc_9, rcs, fvs, rf_s, rf_n, isI_i, isL_l, isR_r, isR_n, isR_q, ct_i, ct_l, ct_r, ct_n, ct_q, tFs, tCs, tKs, tJs, tSs, e_nf, lgs, ↓reduceIte, true_and, and_true, false_and, and_false, or_true, true_or, false_or, or_false, Nat.reduceAdd, Nat.reduceEqDiff, Nat.reduceDiv, Nat.reduceLT, Nat.reduceLeDiff, Nat.zero_add, reduceCtorEq, Bool.false_eq_true, Option.toList_some, Option.toList_none, List.cons_append, List.nil_append, not_true_eq_false, not_false_eq_true, Nat.sub_zero, dsX2_lookAtSpans, jsX2_lookAtSpans, xcX2_lookAtSpans, s0, sR, sc', e1, fp, pk, p1, p2, k0, k1, k2, c1, c2, i10, nI_1, ↓sp_X4_spanAt, ↓sp_X5_isIn, ↓sp_X5_isCut]
          exact ih2 _ (by omega) hQ' hF'
  refine e_g2 hG [(2, [0, 1, 2])] 40 ?_
  simp only [e_wp_s, Option.getD_some, Option.isSome_some, Option.isSome_none, xis0, xis1, xis2, xis3, xis4, e_ks, lk_k, lk_c, List.lookup_nil, gt_c, vi_i, k1_n, k1_c, k2_n, k2_c, ar_n, ar_c, pk_n, pk_c, rm_0, rm_1, rm_2, rm_3, rm_4, rm_5, rc_9, rcs, fvs, rf_s, rf_n, isI_i, isL_l, isR_r, isR_n, isR_q, ct_i, ct_l, ct_r, ct_n, ct_q, tFs, tCs, tKs, tJs, tSs, e_nf, lgs, ↓reduceIte, true_and, and_true, false_and, and_false, or_true, true_or, false_or, or_false, Nat.reduceAdd, Nat.reduceEqDiff, Nat.reduceDiv, Nat.reduceLT, Nat.reduceLeDiff, Nat.zero_add, reduceCtorEq, Bool.false_eq_true, Option.toList_some, Option.toList_none, List.cons_append, List.nil_append, not_true_eq_false, not_false_eq_true, Nat.sub_zero, dsX2_lookAtSpans, jsX2_lookAtSpans, xcX2_lookAtSpans]
  exact loop sp.length 0 M (by omega) (by rw [List.take_zero]; exact hQ) Fr.rf
