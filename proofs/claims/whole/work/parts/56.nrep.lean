/-! the river: its series, gatherer and question -/
def rws (M : HM) (x : Nat) : Nat := (mR M 192 x).getD 0
def gA (M : HM) (x : Nat) : Nat := (mR M 194 x).getD 0
def qA (M : HM) (x : Nat) : Nat := (mR M 195 x).getD 0
def sA (M : HM) (x i : Nat) : Nat := (aR M (rws M x) i).getD 0
def RV (M : HM) (x : Nat) : Prop := mK M x = 7 ∧ (mR M 192 x = some (rws M x) ∧ mK M (rws M x) = 12 ∧ mN M (rws M x) = 8) ∧ mR M 194 x = some (gA M x) ∧ mR M 195 x = some (qA M x)
abbrev SER : Type := Int32 × (Nat → Int32) × List SPN × List BLK × List PT
def SRp (O : GH) (M : HM) (s : Nat) (S : SER) : Prop := SRep O M s S.1 S.2.1 S.2.2.1 S.2.2.2.1 S.2.2.2.2
def NRep (O : GH) (M : HM) (x : Nat) (L : List SER) (sc ct tr : Nat) : Prop := (RV M x ∧ O x = (x, x) ∧ O (rws M x) = (x, x)) ∧ (mI M 193 x = nI L.length ∧ L.length ≤ 8) ∧ (∀ i S, L[i]? = some S → aR M (rws M x) i = some (sA M x i) ∧ SRp O M (sA M x i) S) ∧ (∀ i j, i < L.length → j < L.length → sA M x i = sA M x j → i = j) ∧ GW O M (gA M x) (gA M x) ∧ (O (qA M x)).1 = qA M x ∧ ∃ a b u, QR M (qA M x) a b u sc ct tr
theorem NRep.base {S : Nat → Nat × Nat → Prop} {O O' : GH} {M N : HM} {x sc ct tr : Nat} {L : List SER} (h : NRep O M x L sc ct tr) (hF : Fr S O O' M N) (hx : ∀ a o, o.1 = x → ¬ S a o) : (RV N x ∧ O' x = (x, x) ∧ O' (rws N x) = (x, x)) ∧ mI N 193 x = mI M 193 x ∧ rws N x = rws M x ∧ gA N x = gA M x ∧ qA N x = qA M x ∧ (∀ i, sA N x i = sA M x i) ∧ aR N (rws M x) = aR M (rws M x) := by
  obtain ⟨⟨⟨k0, ⟨a1, a2, a3⟩, b1, c1⟩, o0, o1⟩, -, -⟩ := h
  have m0 := (hF x (by rw [k0]; decide)).2.2 (by rw [o0]; exact hx _ _ rfl)
  have m1 := (hF (rws M x) (by rw [a2]; decide)).2.2 (by rw [o1]; exact hx _ _ rfl)
  have eR := m0.2.2.2.2.1
  have q1 : rws N x = rws M x := by unfold rws; rw [eR]
  have q2 : gA N x = gA M x := by unfold gA; rw [eR]
  have q3 : qA N x = qA M x := by unfold qA; rw [eR]
  refine ⟨⟨⟨m0.1.trans k0, ⟨?_, ?_, ?_⟩, ?_, ?_⟩, ?_, ?_⟩, m0.2.2.1 _, q1, q2, q3, fun i => ?_, m1.2.2.2.2.2.2.2⟩
  · rw [eR, q1]; exact a1
  · rw [q1, m1.1]; exact a2
  · rw [q1, m1.2.1]; exact a3
  · rw [eR, q2]; exact b1
  · rw [eR, q3]; exact c1
  · rw [(hF x (by rw [k0]; decide)).2.1]; exact o0
  · rw [q1, (hF (rws M x) (by rw [a2]; decide)).2.1]; exact o1
  · unfold sA; rw [q1, m1.2.2.2.2.2.2.2]
theorem NRep.ks {O : GH} {M : HM} {x sc ct tr : Nat} {L : List SER} (h : NRep O M x L sc ct tr) : mK M x = 7 ∧ mK M (gA M x) = 2 ∧ mK M (qA M x) = 3 ∧ ∀ i S, L[i]? = some S → mK M (sA M x i) = 5 := by
  obtain ⟨⟨⟨k0, -⟩, -⟩, -, hs, -, hg, -, a, b, u, hq⟩ := h
  exact ⟨k0, hg.1.1, hq.1, fun i S hi => (hs i S hi).2.1.1.1⟩
/-- outside things change -/
theorem NRep.out {S : Nat → Nat × Nat → Prop} {O O' : GH} {M N : HM} {x sc ct tr m : Nat} {L : List SER} (h : NRep O M x L sc ct tr) (hF : Fr S O O' M N) (hm : mK M m = 8) (hS : ∀ a o, o.1 ≠ m → ¬ S a o) : NRep O' N x L sc ct tr := by
  obtain ⟨k1, k2, k3, k4⟩ := h.ks
  have ne : ∀ a, mK M a ≠ 8 → a ≠ m := fun a ha e => ha (by rw [e]; exact hm)
  have nx := ne x (by rw [k1]; decide)
  have ng := ne _ (show mK M (gA M x) ≠ 8 by rw [k2]; decide)
  have nq := ne _ (show mK M (qA M x) ≠ 8 by rw [k3]; decide)
  obtain ⟨b1, b2, b3, b4, b5, b6, b7⟩ := h.base hF (fun a o ho => hS a o (by rw [ho]; exact nx))
  obtain ⟨-, ⟨h1, h2⟩, hs, hi, hg, hq, a, b, u, hQ⟩ := h
  have gO := hg.2
  refine ⟨b1, ⟨by rw [b2]; exact h1, h2⟩, fun i S' hiS => ?_, fun i j hi' hj' e => hi i j hi' hj' (by rw [← b6, ← b6]; exact e), ?_, ?_, a, b, u, ?_⟩
  · rw [b6, b3, b7]
    refine ⟨(hs i S' hiS).1, (hs i S' hiS).2.frm hF (fun a o ho => hS a o (by rw [ho]; exact ne _ (by rw [k4 i S' hiS]; decide)))⟩
  · rw [b4]
    exact (hg.frm hF (hS _ _ (by rw [gO.1]; exact ng)) (hS _ _ (by rw [gO.2.1]; exact ng)) (hS _ _ (by rw [gO.2.2.1]; exact ng))).1
  · rw [b5, (hF _ (by rw [k3]; decide)).2.1]; exact hq
  · rw [b5]; exact hQ.frm ((hF _ (by rw [k3]; decide)).2.2 (hS _ _ (by rw [hq]; exact nq)))
/-- one series changes -/
theorem NRep.mut {O O' : GH} {M N : HM} {x sc ct tr i : Nat} {L : List SER} {S S' : SER} (h : NRep O M x L sc ct tr) (hi : L[i]? = some S) (hF : Fr (Ss (sA M x i)) O O' M N) (hS' : SRp O' N (sA M x i) S') : NRep O' N x (L.set i S') sc ct tr := by
  obtain ⟨k1, k2, k3, k4⟩ := h.ks
  have ne : ∀ a b, mK M a ≠ mK M b → a ≠ b := fun a b h e => h (by rw [e])
  have ks := k4 i S hi
  obtain ⟨b1, b2, b3, b4, b5, b6, b7⟩ := h.base hF (fun a o ho e => ne x (sA M x i) (by rw [k1, ks]; decide) (ho.symm.trans e))
  have ng := ne (gA M x) (sA M x i) (by rw [k2, ks]; decide)
  have nq := ne (qA M x) (sA M x i) (by rw [k3, ks]; decide)
  obtain ⟨-, ⟨h1, h2⟩, hs, hij, hg, hq, a, b, u, hQ⟩ := h
  have gO := hg.2
  have hil : i < L.length := (List.getElem?_eq_some_iff.mp hi).1
  refine ⟨b1, ⟨by rw [b2, List.length_set]; exact h1, by rw [List.length_set]; exact h2⟩, fun j T hT => ?_, fun j l hj' hl' e => hij j l (by rw [List.length_set] at hj'; exact hj') (by rw [List.length_set] at hl'; exact hl') (by rw [← b6, ← b6]; exact e), ?_, ?_, a, b, u, ?_⟩
  · rw [b6, b3, b7]
    rw [List.getElem?_set] at hT
    by_cases c : i = j
    · rw [if_pos c, if_pos hil] at hT
      cases hT
      rw [← c]
      exact ⟨(hs i S hi).1, hS'⟩
    · rw [if_neg c] at hT
      have hjl : j < L.length := (List.getElem?_eq_some_iff.mp hT).1
      exact ⟨(hs j T hT).1, (hs j T hT).2.frm hF (fun a o ho e => c (hij i j hil hjl (e.symm.trans ho)))⟩
  · rw [b4]
    exact (hg.frm hF (fun e => ng (gO.1.symm.trans e)) (fun e => ng (gO.2.1.symm.trans e)) (fun e => ng (gO.2.2.1.symm.trans e))).1
  · rw [b5, (hF _ (by rw [k3]; decide)).2.1]; exact hq
  · rw [b5]; exact hQ.frm ((hF _ (by rw [k3]; decide)).2.2 (fun e => nq (hq.symm.trans e)))
/-- the gatherer and the question change -/
theorem NRep.qst {O : GH} {M N : HM} {x sc ct tr sc' ct' tr' : Nat} {L : List SER} {a b : Int32} {u : QV} (h : NRep O M x L sc ct tr) (hF : Fr (S2r (qA M x) (gA M x)) O O M N) (hg' : GW O N (gA M x) (gA M x)) (hq' : QR N (qA M x) a b u sc' ct' tr') : NRep O N x L sc' ct' tr' := by
  obtain ⟨k1, k2, k3, k4⟩ := h.ks
  have ne : ∀ a b, mK M a ≠ mK M b → a ≠ b := fun a b h e => h (by rw [e])
  obtain ⟨b1, b2, b3, b4, b5, b6, b7⟩ := h.base hF (fun a o ho e => e.elim (fun e => ne x (qA M x) (by rw [k1, k3]; decide) (ho.symm.trans e)) (fun e => ne x (gA M x) (by rw [k1, k2]; decide) (ho.symm.trans e)))
  obtain ⟨-, ⟨h1, h2⟩, hs, hij, hg, hq, -⟩ := h
  refine ⟨b1, ⟨by rw [b2]; exact h1, h2⟩, fun j T hT => ?_, fun j l hj' hl' e => hij j l hj' hl' (by rw [← b6, ← b6]; exact e), ?_, ?_, a, b, u, ?_⟩
  · rw [b6, b3, b7]
    have kj := k4 j T hT
    exact ⟨(hs j T hT).1, (hs j T hT).2.frm hF (fun a o ho e => e.elim (fun e => ne (sA M x j) (qA M x) (by rw [kj, k3]; decide) (ho.symm.trans e)) (fun e => ne (sA M x j) (gA M x) (by rw [kj, k2]; decide) (ho.symm.trans e)))⟩
  · rw [b4]; exact hg'
  · rw [b5]; exact hq
  · rw [b5]; exact hq'
theorem NRep.gat {O : GH} {M N : HM} {x sc ct tr : Nat} {L : List SER} (h : NRep O M x L sc ct tr) (hF : Fr (Ss (gA M x)) O O M N) (hg' : GW O N (gA M x) (gA M x)) : NRep O N x L sc ct tr := by
  obtain ⟨-, -, -, -, -, hq, a, b, u, hQ⟩ := id h
  obtain ⟨k1, k2, k3, k4⟩ := h.ks
  exact h.qst (hF.mono (fun _ _ e => Or.inr e)) hg' (hQ.frm ((hF _ (by rw [k3]; decide)).2.2 (fun e => by
    have e : qA M x = gA M x := hq.symm.trans e
    rw [e, k2] at k3; cases k3)))
def SN (m : Nat) : Nat → Nat × Nat → Prop := fun _ o => o.1 ≠ m
theorem fr_SN {O O' : GH} {M N : HM} {s m : Nat} (h : Fr (Ss s) O O' M N) (hm : mK M m = 8) (hs : mK M s ≠ 8) : Fr (SN m) O O' M N := h.mono (fun _ o e q => hs (by
  have e : o.1 = s := e
  rw [← e, q]; exact hm))
theorem fr2_SN {O O' : GH} {M N : HM} {s r m : Nat} (h : Fr (S2r s r) O O' M N) (hm : mK M m = 8) (hs : mK M s ≠ 8) (hr : mK M r ≠ 8) : Fr (SN m) O O' M N := h.mono (fun _ o e q => e.elim (fun e => hs (by rw [← e, q]; exact hm)) (fun e => hr (by rw [← e, q]; exact hm)))
theorem SN.k {O O' : GH} {M N : HM} {m : Nat} (h : Fr (SN m) O O' M N) (hm : mK M m = 8) : mK N m = 8 := (h m (by rw [hm]; decide)).1.trans hm
def ser (L : List SER) (i : Int32) : Option SER := if i < 0 then none else L[i.toNatClampNeg]?
def saF (M : HM) (x : Nat) (i : Int32) : Option Nat := if ¬ i < 0 ∧ i < mI M 193 x ∧ i < 8 then aR M (rws M x) i.toNatClampNeg else none
def csX6_seriesAt : CS := cs_0
theorem csoX6_seriesAt : ∀ op x na cl sp, csX6_seriesAt op x = some (na, cl, sp) → CallOK 6 0 0 op x na cl sp := cs_0_ok
def sp_X6_seriesAt : SP := fun as M k n Q => match as with
  | [.ref x, .int i] => RV M x ∧ Q (some (va_rf (saF M x i))) M k n
  | _ => False
theorem okX6_seriesAt : OkX6_seriesAt sp_X6_seriesAt := by
  refine inX6_seriesAt csoX6_seriesAt ?_
  intro as M k n Q hsp
  unfold sp_X6_seriesAt at hsp
  split at hsp
  rotate_left
  · exact hsp.elim
  rename_i x i
  obtain ⟨⟨h0, ⟨h1, h2, h3⟩, -⟩, hq⟩ := hsp
  refine ⟨0, 0, Nat.zero_le _, Nat.zero_le _, Nat.le_of_ble_eq_true rfl, fun G hG => ?_⟩
  refine e_g2 hG [] 40 ?_
  simp only [e_wp_s, Option.getD_some, Option.isSome_some, Option.isSome_none, xis0, xis1, xis2, xis3, xis4, e_ks, lk_k, lk_c, List.lookup_nil, gt_c, vi_i, k1_n, k1_c, k2_n, k2_c, ar_n, ar_c, pk_n, pk_c, rm_0, rm_1, rm_2, rm_3, rm_4, rm_5, rc_9, rcs, fvs, rf_s, rf_n, isI_i, isL_l, isR_r, isR_n, isR_q, ct_i, ct_l, ct_r, ct_n, ct_q, tFs, tCs, tKs, tJs, tSs, e_nf, lgs, ↓reduceIte, true_and, and_true, false_and, and_false, or_true, true_or, false_or, or_false, Nat.reduceAdd, Nat.reduceEqDiff, Nat.reduceDiv, Nat.reduceLT, Nat.reduceLeDiff, Nat.zero_add, reduceCtorEq, Bool.false_eq_true, Option.toList_some, Option.toList_none, List.cons_append, List.nil_append, not_true_eq_false, not_false_eq_true, Nat.sub_zero, dsX6_seriesAt, jsX6_seriesAt, h0, h1, h2, h3, ofs]
  unfold saF at hq
  by_cases c1 : i < 0
  · simpa [c1, rf_n] using hq
  · by_cases c2 : i < mI M 193 x
    · by_cases c4 : i < 8
      · have c3 := i_ge (n := 8) c1 c4 (by decide)
        simp only [c1, c2, c3, c4, not_false_eq_true, and_self, if_true, if_false, true_and] at hq ⊢
        exact hq
      · simpa [c1, c2, c4, rf_n] using hq
    · simpa [c1, c2, rf_n] using hq
theorem NRep.sa {O : GH} {M : HM} {x sc ct tr : Nat} {L : List SER} (h : NRep O M x L sc ct tr) (i : Int32) : (ser L i = none ∧ saF M x i = none) ∨ ∃ j S, ser L i = some S ∧ i = nI j ∧ L[j]? = some S ∧ saF M x i = some (sA M x j) ∧ SRp O M (sA M x j) S ∧ j < 8 := by
  unfold ser saF
  by_cases c : i < 0
  · left
    rw [if_pos c, if_neg (fun z => z.1 c)]
    exact ⟨rfl, rfl⟩
  · obtain ⟨j, hj, rfl⟩ := nI_of c
    rw [if_neg c, nI_clamp hj, h.2.1.1]
    have h8 := h.2.1.2
    cases hx : L[j]? with
    | none =>
      left
      refine ⟨rfl, if_neg (fun z => ?_)⟩
      have := List.getElem?_eq_none_iff.mp hx
      exact nI_nlt this hj z.2.1
    | some S =>
      right
      have hl : j < L.length := (List.getElem?_eq_some_iff.mp hx).1
      obtain ⟨w1, w2⟩ := h.2.2.1 j S hx
      refine ⟨j, S, rfl, rfl, hx, ?_, w2, by omega⟩
      rw [if_pos ⟨c, nI_lt hl (by omega), nI_lt (b := 8) (by omega) (by decide)⟩]
      exact w1
def csX6_blockOf : CS := (cs_c 0 38 2 6 sp_X6_seriesAt (cs_c 0 262 2 4 sp_X4_blockAt cs_0))
theorem csoX6_blockOf : ∀ op x na cl sp, csX6_blockOf op x = some (na, cl, sp) → CallOK 6 1 21 op x na cl sp := (cs_c_ok (caX6_blockOf_38 okX6_seriesAt) (cs_c_ok (caX6_blockOf_262 okX4_blockAt) cs_0_ok))
theorem xcX6_blockOf : (∀ (Q : QT) (G : GT) (pc : Nat) (L : LV) (a0 a1 : Value) (r : List Value) (M : HM) (k n : Nat), ex_i 6 4 3 false csX6_blockOf Q G (.invokevirtual 38) pc L (a1 :: a0 :: r) M k n = (e_rm r ∧ e_rc M 6 [a0, a1] ∧ sp_X6_seriesAt [a0, a1] M k n (fun v M' k' n' => G (pc + 3) L (v.toList ++ r) M' k' n'))) ∧ (∀ (Q : QT) (G : GT) (pc : Nat) (L : LV) (a0 a1 : Value) (r : List Value) (M : HM) (k n : Nat), ex_i 6 4 3 false csX6_blockOf Q G (.invokevirtual 262) pc L (a1 :: a0 :: r) M k n = (e_rm r ∧ e_rc M 4 [a0, a1] ∧ sp_X4_blockAt [a0, a1] M k n (fun v M' k' n' => G (pc + 3) L (v.toList ++ r) M' k' n'))) := ⟨(fun _ _ _ _ _ _ _ _ _ _ => xv0_2 rfl), (fun _ _ _ _ _ _ _ _ _ _ => xv0_2 rfl)⟩
def boF (M : HM) (x : Nat) (i j : Int32) : Option Nat := match saF M x i with
  | none => none
  | some s => bkF M s j
def sp_X6_blockOf : SP := fun as M k n Q => match as with
  | [.ref x, .int i, .int j] => RV M x ∧ (∀ s, saF M x i = some s → SR M s) ∧ Q (some (va_rf (boF M x i j))) M k n
  | _ => False
theorem okX6_blockOf : OkX6_blockOf sp_X6_blockOf := by
  refine inX6_blockOf csoX6_blockOf ?_
  intro as M k n Q hsp
  unfold sp_X6_blockOf at hsp
  split at hsp
  rotate_left
  · exact hsp.elim
  rename_i x i j
  obtain ⟨h0, h1, hq⟩ := hsp
  have k0 := h0.1
  refine ⟨0, 0, Nat.zero_le _, Nat.zero_le _, Nat.le_of_ble_eq_true rfl, fun G hG => ?_⟩
  unfold boF at hq
  cases hs : saF M x i with
  | none =>
    rw [hs] at hq
    refine e_g2 hG [] 40 ?_
    simp only [e_wp_s, Option.getD_some, Option.isSome_some, Option.isSome_none, xis0, xis1, xis2, xis3, xis4, e_ks, lk_k, lk_c, List.lookup_nil, gt_c, vi_i, k1_n, k1_c, k2_n, k2_c, ar_n, ar_c, pk_n, pk_c, rm_0, rm_1, rm_2, rm_3, rm_4, rm_5, rc_9, rcs, fvs, rf_s, rf_n, isI_i, isL_l, isR_r, isR_n, isR_q, ct_i, ct_l, ct_r, ct_n, ct_q, tFs, tCs, tKs, tJs, tSs, e_nf, lgs, ↓reduceIte, true_and, and_true, false_and, and_false, or_true, true_or, false_or, or_false, Nat.reduceAdd, Nat.reduceEqDiff, Nat.reduceDiv, Nat.reduceLT, Nat.reduceLeDiff, Nat.zero_add, reduceCtorEq, Bool.false_eq_true, Option.toList_some, Option.toList_none, List.cons_append, List.nil_append, not_true_eq_false, not_false_eq_true, Nat.sub_zero, dsX6_blockOf, jsX6_blockOf, xcX6_blockOf, k0, h0, hs, ↓sp_X6_seriesAt]
    exact hq
  | some s =>
    rw [hs] at hq
    have hR := h1 s hs
    have hk := hR.1
    cases hb : bkF M s j with
    | none =>
      have hb' : bkF M s j = none := hb
      simp only [hb'] at hq
      refine e_g2 hG [] 40 ?_
      simp only [e_wp_s, Option.getD_some, Option.isSome_some, Option.isSome_none, xis0, xis1, xis2, xis3, xis4, e_ks, lk_k, lk_c, List.lookup_nil, gt_c, vi_i, k1_n, k1_c, k2_n, k2_c, ar_n, ar_c, pk_n, pk_c, rm_0, rm_1, rm_2, rm_3, rm_4, rm_5, rc_9, rcs, fvs, rf_s, rf_n, isI_i, isL_l, isR_r, isR_n, isR_q, ct_i, ct_l, ct_r, ct_n, ct_q, tFs, tCs, tKs, tJs, tSs, e_nf, lgs, ↓reduceIte, true_and, and_true, false_and, and_false, or_true, true_or, false_or, or_false, Nat.reduceAdd, Nat.reduceEqDiff, Nat.reduceDiv, Nat.reduceLT, Nat.reduceLeDiff, Nat.zero_add, reduceCtorEq, Bool.false_eq_true, Option.toList_some, Option.toList_none, List.cons_append, List.nil_append, not_true_eq_false, not_false_eq_true, Nat.sub_zero, dsX6_blockOf, jsX6_blockOf, xcX6_blockOf, k0, h0, hs, hR, hk, hb, ↓sp_X6_seriesAt, ↓sp_X4_blockAt]
      exact hq
    | some b =>
      have hb' : bkF M s j = some b := hb
      simp only [hb'] at hq
      refine e_g2 hG [] 40 ?_
      simp only [e_wp_s, Option.getD_some, Option.isSome_some, Option.isSome_none, xis0, xis1, xis2, xis3, xis4, e_ks, lk_k, lk_c, List.lookup_nil, gt_c, vi_i, k1_n, k1_c, k2_n, k2_c, ar_n, ar_c, pk_n, pk_c, rm_0, rm_1, rm_2, rm_3, rm_4, rm_5, rc_9, rcs, fvs, rf_s, rf_n, isI_i, isL_l, isR_r, isR_n, isR_q, ct_i, ct_l, ct_r, ct_n, ct_q, tFs, tCs, tKs, tJs, tSs, e_nf, lgs, ↓reduceIte, true_and, and_true, false_and, and_false, or_true, true_or, false_or, or_false, Nat.reduceAdd, Nat.reduceEqDiff, Nat.reduceDiv, Nat.reduceLT, Nat.reduceLeDiff, Nat.zero_add, reduceCtorEq, Bool.false_eq_true, Option.toList_some, Option.toList_none, List.cons_append, List.nil_append, not_true_eq_false, not_false_eq_true, Nat.sub_zero, dsX6_blockOf, jsX6_blockOf, xcX6_blockOf, k0, h0, hs, hR, hk, hb, ↓sp_X6_seriesAt, ↓sp_X4_blockAt]
      exact hq
def blkA (bk : List BLK) (i : Int32) : Option BLK := if i < 0 then none else bk[i.toNatClampNeg]?
def sblk (L : List SER) (i j : Int32) : Option BLK := match ser L i with
  | none => none
  | some S => blkA S.2.2.2.1 j
theorem SRep.ba {O : GH} {M : HM} {s : Nat} {kd : Int32} {lab : Nat → Int32} {sp : List SPN} {bk : List BLK} {lt : List PT} (h : SRep O M s kd lab sp bk lt) (i : Int32) : (blkA bk i = none ∧ bkF M s i = none) ∨ ∃ j X b, blkA bk i = some X ∧ i = nI j ∧ bk[j]? = some X ∧ bkF M s i = some b ∧ aR M (bks M s) j = some b ∧ BRep O M s b X.1 X.2 ∧ j < 300 := by
  unfold blkA
  by_cases c : i < 0
  · left
    rw [if_pos c]
    exact ⟨rfl, h.bNo (Or.inl c)⟩
  · obtain ⟨j, hj, rfl⟩ := nI_of c
    rw [if_neg c, nI_clamp hj]
    cases hx : bk[j]? with
    | none =>
      left
      exact ⟨rfl, h.bNo (Or.inr ⟨j, rfl, hj, List.getElem?_eq_none_iff.mp hx⟩)⟩
    | some X =>
      right
      obtain ⟨b, w1, w2, w3, w4⟩ := h.bAt hx
      exact ⟨j, X, b, rfl, rfl, hx, w1, w2, w3, w4⟩
theorem NRep.bo {O : GH} {M : HM} {x sc ct tr : Nat} {L : List SER} (h : NRep O M x L sc ct tr) (i j : Int32) : (∀ s, saF M x i = some s → SR M s) ∧ ((sblk L i j = none ∧ boF M x i j = none) ∨ ∃ i' S j' X b, sblk L i j = some X ∧ i = nI i' ∧ L[i']? = some S ∧ j = nI j' ∧ S.2.2.2.1[j']? = some X ∧ boF M x i j = some b ∧ SRp O M (sA M x i') S ∧ aR M (bks M (sA M x i')) j' = some b ∧ BRep O M (sA M x i') b X.1 X.2 ∧ j' < 300 ∧ i' < 8) := by
  rcases h.sa i with ⟨h1, h2⟩ | ⟨i', S, h1, rfl, h3, h4, h5, h6⟩
  · refine ⟨fun s hs => (by rw [h2] at hs; cases hs), Or.inl ⟨?_, ?_⟩⟩
    · unfold sblk; rw [h1]
    · unfold boF; rw [h2]
  · refine ⟨fun s hs => (by rw [h4] at hs; cases hs; exact h5.1.1), ?_⟩
    rcases SRep.ba h5 j with ⟨g1, g2⟩ | ⟨j', X, b, g1, rfl, g3, g4, g5, g6, g7⟩
    · refine Or.inl ⟨?_, ?_⟩
      · unfold sblk; rw [h1]; exact g1
      · unfold boF; rw [h4]; exact g2
    · refine Or.inr ⟨i', S, j', X, b, ?_, rfl, h3, rfl, g3, ?_, h5, g5, g6, g7, h6⟩
      · unfold sblk; rw [h1]; exact g1
      · unfold boF; rw [h4]; exact g4
