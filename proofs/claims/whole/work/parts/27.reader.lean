/-! Reader -/
theorem sI_sI {M : HM} {f a : Nat} {x y : Int32} : sI (sI M f a x) f a y = sI M f a y := by
  refine hm_ext rfl rfl ?_ rfl rfl rfl rfl rfl
  funext g b
  simp only [hmI]
  by_cases e : g = f ∧ b = a <;> simp [e]
theorem sI_comm {M : HM} {f g a : Nat} {x y : Int32} (h : f ≠ g) : sI (sI M f a x) g a y = sI (sI M g a y) f a x := by
  refine hm_ext rfl rfl ?_ rfl rfl rfl rfl rfl
  funext i b
  simp only [hmI]
  by_cases e1 : i = f
  · subst e1; by_cases e2 : b = a <;> simp [h, e2]
  · simp [e1]
def rbit (g : Nat → Int32) (p : Nat) : Int32 := ((g (p / 8)) >>> ((7 - nI (p % 8)) &&& 31)) &&& 1
def rst (a : Int64) (g : Nat → Int32) (p : Nat) : Int64 := (a <<< ((1 : Int32).toInt64 &&& 63)) ||| (rbit g p).toInt64
def rdr (g : Nat → Int32) (p : Nat) : Nat → Int64 → Int64
  | 0, a => a
  | c + 1, a => rdr g (p + 1) c (rst a g p)
def rt (M : HM) (r : Nat) : Nat := (mR M 96 r).getD 0
/-- a reader that stands at place p of an array of 226 bytes -/
def RB (M : HM) (r p : Nat) : Prop := mK M r = 4 ∧ mR M 96 r = some (rt M r) ∧ mK M (rt M r) = 9 ∧ mN M (rt M r) = 226 ∧ mI M 97 r = nI p
def csX3_read : CS := cs_0
theorem csoX3_read : ∀ op x na cl sp, csX3_read op x = some (na, cl, sp) → CallOK 3 0 0 op x na cl sp := cs_0_ok
def sp_X3_read : SP := fun as M k n Q => match as with
  | [.ref r, .int c] => ∃ p, RB M r p ∧ c = nI (cl c) ∧ cl c ≤ 64 ∧ p + cl c ≤ 1808 ∧ Q (some (.long (rdr (aI M (rt M r)) p (cl c) 0))) (sI M 97 r (nI (p + cl c))) k n
  | _ => False
theorem loop_X3_read {Q : QT} {G : GT} {r y c p : Nat} {g : Nat → Int32} (hG : e_cl 3 7 2 false cX3_read csX3_read Q G) (hc : c ≤ 64) (hp : p + c ≤ 1808) : ∀ (d i : Nat) (a : Int64) (M : HM), i + d = c → mK M r = 4 → mR M 96 r = some y → mK M y = 9 → mN M y = 226 → aI M y = g → mI M 97 r = nI (p + i) → Q (some (.long (rdr g (p + i) d a))) (sI M 97 r (nI (p + c))) 0 0 → G 5 [(0, .ref r), (1, .int (nI c)), (2, .long a), (4, .int (nI i))] [] M 0 0 := by
  intro d
  induction d with
  | zero =>
    intro i a M hi h1 h2 h3 h4 h5 h6 hq
    have e1 : ¬ nI i < nI c := nI_nlt (by omega) (by omega)
    refine e_g2 hG [(5, [0, 1, 2, 4])] 60 ?_
    simp only [e_wp_s, Option.getD_some, Option.isSome_some, Option.isSome_none, xis0, xis1, xis2, xis3, xis4, e_ks, lk_k, lk_c, List.lookup_nil, gt_c, vi_i, k1_n, k1_c, k2_n, k2_c, ar_n, ar_c, pk_n, pk_c, rm_0, rm_1, rm_2, rm_3, rm_4, rm_5, rc_9, rcs, fvs, rf_s, rf_n, isI_i, isL_l, isR_r, isR_n, isR_q, ct_i, ct_l, ct_r, ct_n, ct_q, tFs, tCs, tKs, tJs, tSs, e_nf, lgs, ↓reduceIte, true_and, and_true, false_and, and_false, or_true, true_or, false_or, or_false, Nat.reduceAdd, Nat.reduceEqDiff, Nat.reduceDiv, Nat.reduceLT, Nat.reduceLeDiff, Nat.zero_add, reduceCtorEq, Bool.false_eq_true, Option.toList_some, Option.toList_none, List.cons_append, List.nil_append, not_true_eq_false, not_false_eq_true, Nat.sub_zero, dsX3_read, jsX3_read, e1]
    have : sI M 97 r (nI (p + c)) = M := by
      refine hm_ext rfl rfl ?_ rfl rfl rfl rfl rfl
      funext f b
      simp only [hmI]
      by_cases e : f = 97 ∧ b = r
      · obtain ⟨rfl, rfl⟩ := e
        simp [h6, show p + i = p + c by omega]
      · simp [e]
    rw [this] at hq
    exact hq
  | succ d ih =>
    intro i a M hi h1 h2 h3 h4 h5 h6 hq
    have e1 : nI i < nI c := nI_lt (by omega) (by omega)
    have e3 : nI (p + i) >>> ((3 : Int32) &&& 31) = nI ((p + i) / 8) := shr3 (by omega)
    have e4 : ¬ nI ((p + i) / 8) < 0 := nI_pos (by omega)
    have e5 : nI ((p + i) / 8) < 226 := nI_lt (b := 226) (by omega) (by decide)
    have e6 : vp_in (nI ((p + i) / 8)) 226 := vp_in_nI (by omega) (by decide)
    have e7 : (nI ((p + i) / 8)).toNatClampNeg = (p + i) / 8 := nI_clamp (by omega)
    have e8 : nI (p + i) &&& 7 = nI ((p + i) % 8) := and7 (by omega)
    refine e_g2 hG [(5, [0, 1, 2, 4])] 80 ?_
    simp only [e_wp_s, Option.getD_some, Option.isSome_some, Option.isSome_none, xis0, xis1, xis2, xis3, xis4, e_ks, lk_k, lk_c, List.lookup_nil, gt_c, vi_i, k1_n, k1_c, k2_n, k2_c, ar_n, ar_c, pk_n, pk_c, rm_0, rm_1, rm_2, rm_3, rm_4, rm_5, rc_9, rcs, fvs, rf_s, rf_n, isI_i, isL_l, isR_r, isR_n, isR_q, ct_i, ct_l, ct_r, ct_n, ct_q, tFs, tCs, tKs, tJs, tSs, e_nf, lgs, ↓reduceIte, true_and, and_true, false_and, and_false, or_true, true_or, false_or, or_false, Nat.reduceAdd, Nat.reduceEqDiff, Nat.reduceDiv, Nat.reduceLT, Nat.reduceLeDiff, Nat.zero_add, reduceCtorEq, Bool.false_eq_true, Option.toList_some, Option.toList_none, List.cons_append, List.nil_append, not_true_eq_false, not_false_eq_true, Nat.sub_zero, dsX3_read, jsX3_read, e1, h1, h2, h3, h4, h5, h6, e3, e4, e5, e6, e7, e8, of_226, nI_1, hmK, hmN, hmI, hmL, hmR, haI, haL, haR]
    refine ih (i + 1) _ _ (by omega) h1 h2 h3 h4 h5 ?_ ?_
    · simp [hmI, Nat.add_assoc]
    · rw [sI_sI]
      exact hq
theorem okX3_read : OkX3_read sp_X3_read := by
  refine inX3_read csoX3_read ?_
  intro as M k n Q hsp
  unfold sp_X3_read at hsp
  split at hsp
  rotate_left
  · exact hsp.elim
  rename_i r c
  obtain ⟨p, ⟨h1, h2, h3, h4, h5⟩, hc, hc2, hl, hq⟩ := hsp
  refine ⟨0, 0, Nat.zero_le _, Nat.zero_le _, Nat.le_of_ble_eq_true rfl, fun G hG => ?_⟩
  refine e_g2 hG [(5, [0, 1, 2, 4])] 60 ?_
  simp only [e_wp_s, Option.getD_some, Option.isSome_some, Option.isSome_none, xis0, xis1, xis2, xis3, xis4, e_ks, lk_k, lk_c, List.lookup_nil, gt_c, vi_i, k1_n, k1_c, k2_n, k2_c, ar_n, ar_c, pk_n, pk_c, rm_0, rm_1, rm_2, rm_3, rm_4, rm_5, rc_9, rcs, fvs, rf_s, rf_n, isI_i, isL_l, isR_r, isR_n, isR_q, ct_i, ct_l, ct_r, ct_n, ct_q, tFs, tCs, tKs, tJs, tSs, e_nf, lgs, ↓reduceIte, true_and, and_true, false_and, and_false, or_true, true_or, false_or, or_false, Nat.reduceAdd, Nat.reduceEqDiff, Nat.reduceDiv, Nat.reduceLT, Nat.reduceLeDiff, Nat.zero_add, reduceCtorEq, Bool.false_eq_true, Option.toList_some, Option.toList_none, List.cons_append, List.nil_append, not_true_eq_false, not_false_eq_true, Nat.sub_zero, dsX3_read, jsX3_read]
  rw [hc]
  exact loop_X3_read hG hc2 hl (cl c) 0 0 M (by omega) h1 h2 h3 h4 rfl h5 hq
def csX3_open : CS := cs_0
theorem csoX3_open : ∀ op x na cl sp, csX3_open op x = some (na, cl, sp) → CallOK 3 0 0 op x na cl sp := cs_0_ok
def opR (M : HM) (r b : Nat) : HM := sI (sI (sI (sI (sR M 96 r (some (bt M b))) 97 r 0) 99 r 0) 101 r 0) 102 r 0
def sp_X3_open : SP := fun as M k n Q => match as with
  | [.ref r, .ref b] => mK M r = 4 ∧ mK M b = 1 ∧ mR M 0 b = some (bt M b) ∧ Q none (opR M r b) k n
  | _ => False
theorem okX3_open : OkX3_open sp_X3_open := by
  refine inX3_open csoX3_open ?_
  intro as M k n Q hsp
  unfold sp_X3_open at hsp
  split at hsp
  rotate_left
  · exact hsp.elim
  rename_i r b
  obtain ⟨hr, hb, hy, hq⟩ := hsp
  refine ⟨0, 0, Nat.zero_le _, Nat.zero_le _, Nat.le_of_ble_eq_true rfl, fun G hG => ?_⟩
  refine e_g2 hG [] 60 ?_
  simp only [e_wp_s, Option.getD_some, Option.isSome_some, Option.isSome_none, xis0, xis1, xis2, xis3, xis4, e_ks, lk_k, lk_c, List.lookup_nil, gt_c, vi_i, k1_n, k1_c, k2_n, k2_c, ar_n, ar_c, pk_n, pk_c, rm_0, rm_1, rm_2, rm_3, rm_4, rm_5, rc_9, rcs, fvs, rf_s, rf_n, isI_i, isL_l, isR_r, isR_n, isR_q, ct_i, ct_l, ct_r, ct_n, ct_q, tFs, tCs, tKs, tJs, tSs, e_nf, lgs, ↓reduceIte, true_and, and_true, false_and, and_false, or_true, true_or, false_or, or_false, Nat.reduceAdd, Nat.reduceEqDiff, Nat.reduceDiv, Nat.reduceLT, Nat.reduceLeDiff, Nat.zero_add, reduceCtorEq, Bool.false_eq_true, Option.toList_some, Option.toList_none, List.cons_append, List.nil_append, not_true_eq_false, not_false_eq_true, Nat.sub_zero, dsX3_open, hr, hb, hy, hmK, hmN, hmI, hmL, hmR, haI, haL, haR]
  exact hq
def csX3_init : CS := (cs_c 1 3 1 9 sp_obj cs_0)
theorem csoX3_init : ∀ op x na cl sp, csX3_init op x = some (na, cl, sp) → CallOK 3 1 20 op x na cl sp := (cs_c_ok caX3_init_3 cs_0_ok)
theorem xcX3_init : (∀ (Q : QT) (G : GT) (pc : Nat) (L : LV) (a0 : Value) (r : List Value) (M : HM) (k n : Nat), ex_i 3 1 0 true csX3_init Q G (.invokespecial 3) pc L (a0 :: r) M k n = (e_rm r ∧ e_rc M 9 [a0] ∧ sp_obj [a0] M k n (fun v M' k' n' => G (pc + 3) L (v.toList ++ r) M' k' n'))) := (fun _ _ _ _ _ _ _ _ _ => xv1_1 rfl)
def inR (M : HM) (r y : Nat) : HM := sI (sI (sI (sL (sI (sI (sI (sR (nA M 9 y 0) 96 r (some y)) 97 r 0) 98 r 0) 99 r 0) 100 r 0) 101 r 0) 102 r 0) 103 r 0
def sp_X3_init : SP := fun as M k n Q => match as with
  | [.ref r] => mK M r = 4 ∧ 1 ≤ k ∧ ∀ y, mK M y = 0 → Q none (inR M r y) (k - 1) n
  | _ => False
theorem okX3_init : OkX3_init sp_X3_init := by
  refine inX3_init csoX3_init ?_
  intro as M k n Q hsp
  unfold sp_X3_init at hsp
  split at hsp
  rotate_left
  · exact hsp.elim
  rename_i r
  obtain ⟨hb, hk, hq⟩ := hsp
  refine ⟨1, 0, hk, Nat.zero_le _, Nat.le_of_ble_eq_true rfl, fun G hG => ?_⟩
  refine e_g2 hG [] 80 ?_
  have z1 : ¬ (0 : Int32) < 0 := by decide
  have z2 : (0 : Int32).toNatClampNeg = 0 := rfl
  have hne : ∀ y, mK M y = 0 → r ≠ y := fun y h e => by rw [e, h] at hb; cases hb
  simp only [e_wp_s, Option.getD_some, Option.isSome_some, Option.isSome_none, xis0, xis1, xis2, xis3, xis4, e_ks, lk_k, lk_c, List.lookup_nil, gt_c, vi_i, k1_n, k1_c, k2_n, k2_c, ar_n, ar_c, pk_n, pk_c, rm_0, rm_1, rm_2, rm_3, rm_4, rm_5, rc_9, rcs, fvs, rf_s, rf_n, isI_i, isL_l, isR_r, isR_n, isR_q, ct_i, ct_l, ct_r, ct_n, ct_q, tFs, tCs, tKs, tJs, tSs, e_nf, lgs, ↓reduceIte, true_and, and_true, false_and, and_false, or_true, true_or, false_or, or_false, Nat.reduceAdd, Nat.reduceEqDiff, Nat.reduceDiv, Nat.reduceLT, Nat.reduceLeDiff, Nat.zero_add, reduceCtorEq, Bool.false_eq_true, Option.toList_some, Option.toList_none, List.cons_append, List.nil_append, not_true_eq_false, not_false_eq_true, Nat.sub_zero, dsX3_init, xcX3_init, hb, ↓obj_e, z1, z2, hmK, hmN, hmI, hmL, hmR, haI, haL, haR]
  intro y hy
  simp only [hne y hy, if_false, true_and]
  exact hq y hy
/-- how many ones are ahead, at most four -/
def rfm (g : Nat → Int32) (p : Nat) : Nat → Nat
  | 0 => 0
  | d + 1 => if rdr g p 1 0 = 1 then rfm g (p + 1) d + 1 else 0
def rsl (g : Nat → Int32) (p : Nat) : Nat := if rfm g p 4 < 4 then rfm g p 4 + 1 else 4
def csX3_readStepChange : CS := (cs_c 0 41 2 3 sp_X3_read cs_0)
theorem csoX3_readStepChange : ∀ op x na cl sp, csX3_readStepChange op x = some (na, cl, sp) → CallOK 3 1 26 op x na cl sp := (cs_c_ok (caX3_readStepChange_41 okX3_read) cs_0_ok)
theorem xcX3_readStepChange : (∀ (Q : QT) (G : GT) (pc : Nat) (L : LV) (a0 a1 : Value) (r : List Value) (M : HM) (k n : Nat), ex_i 3 2 1 false csX3_readStepChange Q G (.invokevirtual 41) pc L (a1 :: a0 :: r) M k n = (e_rm r ∧ e_rc M 3 [a0, a1] ∧ sp_X3_read [a0, a1] M k n (fun v M' k' n' => G (pc + 3) L (v.toList ++ r) M' k' n'))) := (fun _ _ _ _ _ _ _ _ _ _ => xv0_2 rfl)
def sp_X3_readStepChange : SP := fun as M k n Q => match as with
  | [.ref r] => ∃ p, RB M r p ∧ p + 37 ≤ 1808 ∧ Q (some (.int ((rdr (aI M (rt M r)) (p + rsl (aI M (rt M r)) p) (sbits (rfm (aI M (rt M r)) p 4)) 0).toInt32 - e_sa 1 (rfm (aI M (rt M r)) p 4)))) (sI M 97 r (nI (p + rsl (aI M (rt M r)) p + sbits (rfm (aI M (rt M r)) p 4)))) k n
  | _ => False
theorem rts : (∀ M f a v r, rt (sI M f a v) r = rt M r) ∧ (∀ M f a v r, rt (sL M f a v) r = rt M r) := ⟨fun _ _ _ _ _ => rfl, fun _ _ _ _ _ => rfl⟩
theorem RB.s {M : HM} {r p f : Nat} {v : Int32} (h : RB M r p) (hf : f ≠ 97) : RB (sI M f r v) r p := by
  obtain ⟨h1, h2, h3, h4, h5⟩ := h
  exact ⟨h1, h2, h3, h4, by simp [hmI, Ne.symm hf, h5]⟩
theorem RB.mv {M : HM} {r p q : Nat} (h : RB M r p) : RB (sI M 97 r (nI q)) r q := by
  obtain ⟨h1, h2, h3, h4, h5⟩ := h
  exact ⟨h1, h2, h3, h4, by simp [hmI]⟩
theorem okX3_readStepChange : OkX3_readStepChange sp_X3_readStepChange := by
  refine inX3_readStepChange csoX3_readStepChange ?_
  intro as M k n Q hsp
  unfold sp_X3_readStepChange at hsp
  split at hsp
  rotate_left
  · exact hsp.elim
  rename_i r
  obtain ⟨p, hR, hl, hq⟩ := hsp
  refine ⟨0, 0, Nat.zero_le _, Nat.zero_le _, Nat.le_of_ble_eq_true rfl, fun G hG => ?_⟩
  have c1 : cl (1 : Int32) = 1 := rfl
  have h23 : ∀ (f q : Nat) (M1 : HM), f ≤ 4 → RB M1 r q → aI M1 (rt M1 r) = aI M (rt M r) → q + 32 ≤ 1808 → Q (some (.int ((rdr (aI M (rt M r)) q (sbits f) 0).toInt32 - e_sa 1 f))) (sI M1 97 r (nI (q + sbits f))) k n → G 23 [(0, .ref r), (1, .int (nI f))] [] M1 0 0 := by
    intro f q M1 hf hR1 hg hq1 hQ
    obtain ⟨s1, s2⟩ := sb_le f hf
    have v1 : vp_in (nI f) 5 := vp_in_nI (by omega) (by decide)
    have v2 : (nI f).toNatClampNeg = f := nI_clamp (by omega)
    have hk := hR1.1
    refine e_g2 hG [] 40 ?_
    simp only [e_wp_s, Option.getD_some, Option.isSome_some, Option.isSome_none, xis0, xis1, xis2, xis3, xis4, e_ks, lk_k, lk_c, List.lookup_nil, gt_c, vi_i, k1_n, k1_c, k2_n, k2_c, ar_n, ar_c, pk_n, pk_c, rm_0, rm_1, rm_2, rm_3, rm_4, rm_5, rc_9, rcs, fvs, rf_s, rf_n, isI_i, isL_l, isR_r, isR_n, isR_q, ct_i, ct_l, ct_r, ct_n, ct_q, tFs, tCs, tKs, tJs, tSs, e_nf, lgs, ↓reduceIte, true_and, and_true, false_and, and_false, or_true, true_or, false_or, or_false, Nat.reduceAdd, Nat.reduceEqDiff, Nat.reduceDiv, Nat.reduceLT, Nat.reduceLeDiff, Nat.zero_add, reduceCtorEq, Bool.false_eq_true, Option.toList_some, Option.toList_none, List.cons_append, List.nil_append, not_true_eq_false, not_false_eq_true, Nat.sub_zero, dsX3_readStepChange, jsX3_readStepChange, xcX3_readStepChange, hk, ↓sp_X3_read, hmK, hmN, hmI, hmL, hmR, haI, haL, haR]
    intro t a1 a2 a3
    simp only [a1, a2, a3, v1, v2, or_true, true_and]
    refine ⟨q, hR1, s1, by omega, by omega, ?_⟩
    intro t b1 b2 b3
    simp only [b1, b2, b3, v1, v2, or_true, true_and]
    rw [hg]
    exact hQ
  have loop : ∀ (d j : Nat) (M1 : HM), j + d = 4 → RB M1 r (p + j) → aI M1 (rt M1 r) = aI M (rt M r) → (∀ x, sI M1 97 r x = sI M 97 r x) → (∀ f q, f = j + rfm (aI M (rt M r)) (p + j) d → q = (if rfm (aI M (rt M r)) (p + j) d < d then p + j + rfm (aI M (rt M r)) (p + j) d + 1 else p + 4) → Q (some (.int ((rdr (aI M (rt M r)) q (sbits f) 0).toInt32 - e_sa 1 f))) (sI M 97 r (nI (q + sbits f))) k n) → G 2 [(0, .ref r), (1, .int (nI j))] [] M1 0 0 := by
    intro d
    induction d with
    | zero =>
      intro j M1 hj hR1 hg hM hQ
      have e1 : ¬ nI j < 4 := nI_nlt (b := 4) (by omega) (by omega)
      refine e_g2 hG [(23, [0, 1])] 40 ?_
      simp only [e_wp_s, Option.getD_some, Option.isSome_some, Option.isSome_none, xis0, xis1, xis2, xis3, xis4, e_ks, lk_k, lk_c, List.lookup_nil, gt_c, vi_i, k1_n, k1_c, k2_n, k2_c, ar_n, ar_c, pk_n, pk_c, rm_0, rm_1, rm_2, rm_3, rm_4, rm_5, rc_9, rcs, fvs, rf_s, rf_n, isI_i, isL_l, isR_r, isR_n, isR_q, ct_i, ct_l, ct_r, ct_n, ct_q, tFs, tCs, tKs, tJs, tSs, e_nf, lgs, ↓reduceIte, true_and, and_true, false_and, and_false, or_true, true_or, false_or, or_false, Nat.reduceAdd, Nat.reduceEqDiff, Nat.reduceDiv, Nat.reduceLT, Nat.reduceLeDiff, Nat.zero_add, reduceCtorEq, Bool.false_eq_true, Option.toList_some, Option.toList_none, List.cons_append, List.nil_append, not_true_eq_false, not_false_eq_true, Nat.sub_zero, dsX3_readStepChange, jsX3_readStepChange, xcX3_readStepChange, e1]
      refine h23 j (p + j) M1 (by omega) hR1 hg (by omega) ?_
      rw [hM]
      refine hQ j (p + j) rfl ?_
      simp [rfm]; omega
    | succ d ih =>
      intro j M1 hj hR1 hg hM hQ
      have e1 : nI j < 4 := nI_lt (b := 4) (by omega) (by decide)
      have hk := hR1.1
      refine e_g2 hG [(2, [0, 1]), (23, [0, 1])] 40 ?_
      simp only [e_wp_s, Option.getD_some, Option.isSome_some, Option.isSome_none, xis0, xis1, xis2, xis3, xis4, e_ks, lk_k, lk_c, List.lookup_nil, gt_c, vi_i, k1_n, k1_c, k2_n, k2_c, ar_n, ar_c, pk_n, pk_c, rm_0, rm_1, rm_2, rm_3, rm_4, rm_5, rc_9, rcs, fvs, rf_s, rf_n, isI_i, isL_l, isR_r, isR_n, isR_q, ct_i, ct_l, ct_r, ct_n, ct_q, tFs, tCs, tKs, tJs, tSs, e_nf, lgs, ↓reduceIte, true_and, and_true, false_and, and_false, or_true, true_or, false_or, or_false, Nat.reduceAdd, Nat.reduceEqDiff, Nat.reduceDiv, Nat.reduceLT, Nat.reduceLeDiff, Nat.zero_add, reduceCtorEq, Bool.false_eq_true, Option.toList_some, Option.toList_none, List.cons_append, List.nil_append, not_true_eq_false, not_false_eq_true, Nat.sub_zero, dsX3_readStepChange, jsX3_readStepChange, xcX3_readStepChange, e1, hk, ↓sp_X3_read, hmK, hmN, hmI, hmL, hmR, haI, haL, haR, nI_1, c1]
      refine ⟨p + j, hR1, rfl, by omega, ?_⟩
      rw [hg]
      by_cases c : rdr (aI M (rt M r)) (p + j) 1 0 = 1
      · simp only [c, if_true]
        refine ih (j + 1) _ (by omega) hR1.mv hg (fun x => by rw [sI_sI]; exact hM x) ?_
        intro f q hf hq2
        refine hQ f q ?_ ?_
        · rw [hf, rfm, if_pos c]; rw [show p + (j + 1) = p + j + 1 by omega]; omega
        · rw [hq2, rfm, if_pos c]; rw [show p + (j + 1) = p + j + 1 by omega]
          by_cases c2 : rfm (aI M (rt M r)) (p + j + 1) d < d
          · rw [if_pos c2, if_pos (by omega)]; omega
          · rw [if_neg c2, if_neg (by omega)]
      · simp only [c, if_false]
        refine h23 j (p + j + 1) _ (by omega) hR1.mv hg (by omega) ?_
        rw [sI_sI, hM]
        refine hQ j (p + j + 1) ?_ ?_
        · rw [rfm, if_neg c]; rfl
        · rw [rfm, if_neg c, if_pos (by omega)]
  refine e_g2 hG [(2, [0, 1])] 60 ?_
  simp only [e_wp_s, Option.getD_some, Option.isSome_some, Option.isSome_none, xis0, xis1, xis2, xis3, xis4, e_ks, lk_k, lk_c, List.lookup_nil, gt_c, vi_i, k1_n, k1_c, k2_n, k2_c, ar_n, ar_c, pk_n, pk_c, rm_0, rm_1, rm_2, rm_3, rm_4, rm_5, rc_9, rcs, fvs, rf_s, rf_n, isI_i, isL_l, isR_r, isR_n, isR_q, ct_i, ct_l, ct_r, ct_n, ct_q, tFs, tCs, tKs, tJs, tSs, e_nf, lgs, ↓reduceIte, true_and, and_true, false_and, and_false, or_true, true_or, false_or, or_false, Nat.reduceAdd, Nat.reduceEqDiff, Nat.reduceDiv, Nat.reduceLT, Nat.reduceLeDiff, Nat.zero_add, reduceCtorEq, Bool.false_eq_true, Option.toList_some, Option.toList_none, List.cons_append, List.nil_append, not_true_eq_false, not_false_eq_true, Nat.sub_zero, dsX3_readStepChange, jsX3_readStepChange, xcX3_readStepChange]
  refine loop 4 0 M (by omega) hR rfl (fun _ => rfl) ?_
  intro f q hf hq2
  have e1 : f = rfm (aI M (rt M r)) p 4 := by rw [hf]; simp
  have e2 : q = p + rsl (aI M (rt M r)) p := by
    rw [hq2]; unfold rsl
    simp only [Nat.add_zero]
    by_cases c2 : rfm (aI M (rt M r)) p 4 < 4
    · rw [if_pos c2, if_pos c2]; omega
    · rw [if_neg c2, if_neg c2]
  rw [e1, e2]
  exact hq
def csX3_readValueChange : CS := (cs_c 0 41 2 3 sp_X3_read cs_0)
theorem csoX3_readValueChange : ∀ op x na cl sp, csX3_readValueChange op x = some (na, cl, sp) → CallOK 3 1 26 op x na cl sp := (cs_c_ok (caX3_readValueChange_41 okX3_read) cs_0_ok)
theorem xcX3_readValueChange : (∀ (Q : QT) (G : GT) (pc : Nat) (L : LV) (a0 a1 : Value) (r : List Value) (M : HM) (k n : Nat), ex_i 3 1 2 false csX3_readValueChange Q G (.invokevirtual 41) pc L (a1 :: a0 :: r) M k n = (e_rm r ∧ e_rc M 3 [a0, a1] ∧ sp_X3_read [a0, a1] M k n (fun v M' k' n' => G (pc + 3) L (v.toList ++ r) M' k' n'))) := (fun _ _ _ _ _ _ _ _ _ _ => xv0_2 rfl)
/-- the value's change: zero; in the frame; in a frame of its own -/
def rvf (M : HM) (r p : Nat) : HM := sI (sI (sI M 97 r (nI (p + 1 + 1 + 6 + 6))) 101 r (rdr (aI M (rt M r)) (p + 1 + 1) 6 0).toInt32) 102 r ((rdr (aI M (rt M r)) (p + 1 + 1 + 6) 6 0).toInt32 + 1)
def sp_X3_readValueChange : SP := fun as M k n Q => match as with
  | [.ref r] => ∃ p, RB M r p ∧ p + 78 ≤ 1808 ∧
      (rdr (aI M (rt M r)) p 1 0 = 0 → Q (some (.long 0)) (sI M 97 r (nI (p + 1))) k n) ∧
      (¬ rdr (aI M (rt M r)) p 1 0 = 0 → ¬ rdr (aI M (rt M r)) (p + 1) 1 0 = 1 → mI M 102 r = nI (cl (mI M 102 r)) ∧ cl (mI M 102 r) ≤ 64 ∧ Q (some (.long (rdr (aI M (rt M r)) (p + 1 + 1) (cl (mI M 102 r)) 0 <<< ((64 - mI M 101 r - mI M 102 r).toInt64 &&& 63)))) (sI M 97 r (nI (p + 1 + 1 + cl (mI M 102 r)))) k n) ∧
      (¬ rdr (aI M (rt M r)) p 1 0 = 0 → rdr (aI M (rt M r)) (p + 1) 1 0 = 1 → ∃ f, (rdr (aI M (rt M r)) (p + 1 + 1 + 6) 6 0).toInt32 + 1 = nI f ∧ f ≤ 64 ∧ Q (some (.long (rdr (aI M (rt M r)) (p + 1 + 1 + 6 + 6) f 0 <<< ((64 - (rdr (aI M (rt M r)) (p + 1 + 1) 6 0).toInt32 - ((rdr (aI M (rt M r)) (p + 1 + 1 + 6) 6 0).toInt32 + 1)).toInt64 &&& 63)))) (sI (rvf M r p) 97 r (nI (p + 1 + 1 + 6 + 6 + f))) k n)
  | _ => False
theorem rv_eq {M : HM} {r : Nat} {A B c d e : Int32} : sI (sI (sI (sI (sI M 97 r A) 101 r B) 97 r c) 102 r d) 97 r e = sI (sI (sI (sI M 97 r c) 101 r B) 102 r d) 97 r e := by
  rw [sI_comm (M := sI M 97 r A) (f := 101) (g := 97) (by decide), sI_sI]
set_option maxRecDepth 20000 in
theorem okX3_readValueChange : OkX3_readValueChange sp_X3_readValueChange := by
  refine inX3_readValueChange csoX3_readValueChange ?_
  intro as M k n Q hsp
  unfold sp_X3_readValueChange at hsp
  split at hsp
  rotate_left
  · exact hsp.elim
  rename_i r
  obtain ⟨p, hR, hl, hq0, hq1, hq2⟩ := hsp
  have hk := hR.1
  refine ⟨0, 0, Nat.zero_le _, Nat.zero_le _, Nat.le_of_ble_eq_true rfl, fun G hG => ?_⟩
  have c1 : cl (1 : Int32) = 1 := rfl
  have c6 : cl (6 : Int32) = 6 := rfl
  refine e_g2 hG [] 80 ?_
  simp only [e_wp_s, Option.getD_some, Option.isSome_some, Option.isSome_none, xis0, xis1, xis2, xis3, xis4, e_ks, lk_k, lk_c, List.lookup_nil, gt_c, vi_i, k1_n, k1_c, k2_n, k2_c, ar_n, ar_c, pk_n, pk_c, rm_0, rm_1, rm_2, rm_3, rm_4, rm_5, rc_9, rcs, fvs, rf_s, rf_n, isI_i, isL_l, isR_r, isR_n, isR_q, ct_i, ct_l, ct_r, ct_n, ct_q, tFs, tCs, tKs, tJs, tSs, e_nf, lgs, ↓reduceIte, true_and, and_true, false_and, and_false, or_true, true_or, false_or, or_false, Nat.reduceAdd, Nat.reduceEqDiff, Nat.reduceDiv, Nat.reduceLT, Nat.reduceLeDiff, Nat.zero_add, reduceCtorEq, Bool.false_eq_true, Option.toList_some, Option.toList_none, List.cons_append, List.nil_append, not_true_eq_false, not_false_eq_true, Nat.sub_zero, dsX3_readValueChange, jsX3_readValueChange, xcX3_readValueChange, hk, ↓sp_X3_read, hmK, hmN, hmI, hmL, hmR, haI, haL, haR, c1, c6, rts, sI_sI]
  refine ⟨p, hR, rfl, by omega, ?_⟩
  unfold rvf at hq2
  generalize aI M (rt M r) = g at hq0 hq1 hq2 ⊢
  by_cases d0 : rdr g p 1 0 = 0
  · simp only [d0, if_true]
    exact hq0 d0
  simp only [d0, if_false]
  refine ⟨p + 1, hR.mv, rfl, by omega, ?_⟩
  by_cases d1 : rdr g (p + 1) 1 0 = 1
  · simp only [d1, if_true]
    obtain ⟨f, hf, hf2, hq⟩ := hq2 d0 d1
    have hcf : cl ((rdr g (p + 1 + 1 + 6) 6 0).toInt32 + 1) = f := by rw [hf]; exact nI_clamp (by omega)
    refine ⟨p + 1 + 1, hR.mv, rfl, by omega, p + 1 + 1 + 6, hR.mv.s (by decide), rfl, by omega, p + 1 + 1 + 6 + 6, ((hR.mv.s (by decide)).mv).s (by decide), by rw [hcf]; exact hf, by rw [hcf]; exact hf2, by rw [hcf]; omega, ?_⟩
    rw [hcf, rv_eq]
    exact hq
  · simp only [d1, if_false]
    obtain ⟨hf, hf2, hq⟩ := hq1 d0 d1
    exact ⟨p + 1 + 1, hR.mv, hf, hf2, by omega, hq⟩
