/-- Reader.next: the first point; a later one -/
def nx0 (M : HM) (r : Nat) : HM := sI (sL (sI (sI (sI M 97 r (nI (0 + 32))) 98 r (rdr (aI M (rt M r)) 0 32 0).toInt32) 97 r (nI (0 + 32 + 64))) 100 r (rdr (aI M (rt M r)) (0 + 32) 64 0)) 103 r (nI (0 + 32 + 64) - nI 0)
/-- the change of step that stands at place p; the place behind it -/
def rsc (g : Nat → Int32) (p : Nat) : Int32 := (rdr g (p + rsl g p) (sbits (rfm g p 4)) 0).toInt32 - e_sa 1 (rfm g p 4)
def rse (g : Nat → Int32) (p : Nat) : Nat := p + rsl g p + sbits (rfm g p 4)
def nxN (M : HM) (r p : Nat) : HM := sI (sI (sI M 97 r (nI (rse (aI M (rt M r)) p))) 99 r (mI M 99 r + rsc (aI M (rt M r)) p)) 98 r (mI M 98 r + (mI M 99 r + rsc (aI M (rt M r)) p))
def nxE (N : HM) (r p e : Nat) (v x : Int64) : HM := sI (sL (sI N 97 r (nI e)) 100 r (v ^^^ x)) 103 r (nI e - nI p)
def sp_X3_next : SP := fun as M k n Q => match as with
  | [.ref r] => ∃ p, RB M r p ∧ p + 115 ≤ 1808 ∧ rse (aI M (rt M r)) p ≤ 1730 ∧ (p = 0 → Q none (nx0 M r) k n) ∧
      (¬ p = 0 → rdr (aI M (rt M r)) (rse (aI M (rt M r)) p) 1 0 = 0 → Q none (nxE (nxN M r p) r p (rse (aI M (rt M r)) p + 1) (mL M 100 r) 0) k n) ∧
      (¬ p = 0 → ¬ rdr (aI M (rt M r)) (rse (aI M (rt M r)) p) 1 0 = 0 → ¬ rdr (aI M (rt M r)) (rse (aI M (rt M r)) p + 1) 1 0 = 1 → mI M 102 r = nI (cl (mI M 102 r)) ∧ cl (mI M 102 r) ≤ 64 ∧
        Q none (nxE (nxN M r p) r p (rse (aI M (rt M r)) p + 1 + 1 + cl (mI M 102 r)) (mL M 100 r) (rdr (aI M (rt M r)) (rse (aI M (rt M r)) p + 1 + 1) (cl (mI M 102 r)) 0 <<< ((64 - mI M 101 r - mI M 102 r).toInt64 &&& 63))) k n) ∧
      (¬ p = 0 → ¬ rdr (aI M (rt M r)) (rse (aI M (rt M r)) p) 1 0 = 0 → rdr (aI M (rt M r)) (rse (aI M (rt M r)) p + 1) 1 0 = 1 → ∃ f, (rdr (aI M (rt M r)) (rse (aI M (rt M r)) p + 1 + 1 + 6) 6 0).toInt32 + 1 = nI f ∧ f ≤ 64 ∧
        Q none (nxE (rvf (nxN M r p) r (rse (aI M (rt M r)) p)) r p (rse (aI M (rt M r)) p + 1 + 1 + 6 + 6 + f) (mL M 100 r) (rdr (aI M (rt M r)) (rse (aI M (rt M r)) p + 1 + 1 + 6 + 6) f 0 <<< ((64 - (rdr (aI M (rt M r)) (rse (aI M (rt M r)) p + 1 + 1) 6 0).toInt32 - ((rdr (aI M (rt M r)) (rse (aI M (rt M r)) p + 1 + 1 + 6) 6 0).toInt32 + 1)).toInt64 &&& 63))) k n)
  | _ => False
def csX3_next : CS := (cs_c 0 41 2 3 sp_X3_read (cs_c 0 45 1 3 sp_X3_readStepChange (cs_c 0 49 1 3 sp_X3_readValueChange cs_0)))
theorem csoX3_next : ∀ op x na cl sp, csX3_next op x = some (na, cl, sp) → CallOK 3 2 47 op x na cl sp := (cs_c_ok (caX3_next_41 okX3_read) (cs_c_ok (caX3_next_45 okX3_readStepChange) (cs_c_ok (caX3_next_49 okX3_readValueChange) cs_0_ok)))
theorem xcX3_next : (∀ (Q : QT) (G : GT) (pc : Nat) (L : LV) (a0 a1 : Value) (r : List Value) (M : HM) (k n : Nat), ex_i 3 2 0 false csX3_next Q G (.invokevirtual 41) pc L (a1 :: a0 :: r) M k n = (e_rm r ∧ e_rc M 3 [a0, a1] ∧ sp_X3_read [a0, a1] M k n (fun v M' k' n' => G (pc + 3) L (v.toList ++ r) M' k' n'))) ∧ (∀ (Q : QT) (G : GT) (pc : Nat) (L : LV) (a0 : Value) (r : List Value) (M : HM) (k n : Nat), ex_i 3 2 0 false csX3_next Q G (.invokevirtual 45) pc L (a0 :: r) M k n = (e_rm r ∧ e_rc M 3 [a0] ∧ sp_X3_readStepChange [a0] M k n (fun v M' k' n' => G (pc + 3) L (v.toList ++ r) M' k' n'))) ∧ (∀ (Q : QT) (G : GT) (pc : Nat) (L : LV) (a0 : Value) (r : List Value) (M : HM) (k n : Nat), ex_i 3 2 0 false csX3_next Q G (.invokevirtual 49) pc L (a0 :: r) M k n = (e_rm r ∧ e_rc M 3 [a0] ∧ sp_X3_readValueChange [a0] M k n (fun v M' k' n' => G (pc + 3) L (v.toList ++ r) M' k' n'))) := ⟨(fun _ _ _ _ _ _ _ _ _ _ => xv0_2 rfl), (fun _ _ _ _ _ _ _ _ _ => xv0_1 rfl), (fun _ _ _ _ _ _ _ _ _ => xv0_1 rfl)⟩
set_option maxRecDepth 20000 in
theorem okX3_next : OkX3_next sp_X3_next := by
  refine inX3_next csoX3_next ?_
  intro as M k n Q hsp
  unfold sp_X3_next at hsp
  split at hsp
  rotate_left
  · exact hsp.elim
  rename_i r
  obtain ⟨p, hR, hl, hl2, hq0, hq1, hq2, hq3⟩ := hsp
  have hk := hR.1
  have hpl := hR.2.2.2.2
  refine ⟨0, 0, Nat.zero_le _, Nat.zero_le _, Nat.le_of_ble_eq_true rfl, fun G hG => ?_⟩
  have c32 : cl (32 : Int32) = 32 := rfl
  have c64 : cl (64 : Int32) = 64 := rfl
  refine e_g2 hG [] 80 ?_
  by_cases hp : p = 0
  · subst hp
    have hz : (nI 0 = 0) = True := eq_true rfl
    have hq := hq0 rfl
    simp only [e_wp_s, Option.getD_some, Option.isSome_some, Option.isSome_none, xis0, xis1, xis2, xis3, xis4, e_ks, lk_k, lk_c, List.lookup_nil, gt_c, vi_i, k1_n, k1_c, k2_n, k2_c, ar_n, ar_c, pk_n, pk_c, rm_0, rm_1, rm_2, rm_3, rm_4, rm_5, rc_9, rcs, fvs, rf_s, rf_n, isI_i, isL_l, isR_r, isR_n, isR_q, ct_i, ct_l, ct_r, ct_n, ct_q, tFs, tCs, tKs, tJs, tSs, e_nf, lgs, ↓reduceIte, true_and, and_true, false_and, and_false, or_true, true_or, false_or, or_false, Nat.reduceAdd, Nat.reduceEqDiff, Nat.reduceDiv, Nat.reduceLT, Nat.reduceLeDiff, Nat.zero_add, reduceCtorEq, Bool.false_eq_true, Option.toList_some, Option.toList_none, List.cons_append, List.nil_append, not_true_eq_false, not_false_eq_true, Nat.sub_zero, dsX3_next, jsX3_next, xcX3_next, hk, hpl, ↓sp_X3_read, ↓sp_X3_readStepChange, ↓sp_X3_readValueChange, hmK, hmN, hmI, hmL, hmR, haI, haL, haR, c32, c64, rts, hz]
    refine ⟨0, hR, rfl, by omega, 0 + 32, hR.mv.s (by decide), rfl, by omega, ?_⟩
    exact hq
  · have hz : ¬ nI p = 0 := nI_ne0 (by omega) (by omega)
    have hq1 := hq1 hp
    have hq2 := hq2 hp
    have hq3 := hq3 hp
    simp only [e_wp_s, Option.getD_some, Option.isSome_some, Option.isSome_none, xis0, xis1, xis2, xis3, xis4, e_ks, lk_k, lk_c, List.lookup_nil, gt_c, vi_i, k1_n, k1_c, k2_n, k2_c, ar_n, ar_c, pk_n, pk_c, rm_0, rm_1, rm_2, rm_3, rm_4, rm_5, rc_9, rcs, fvs, rf_s, rf_n, isI_i, isL_l, isR_r, isR_n, isR_q, ct_i, ct_l, ct_r, ct_n, ct_q, tFs, tCs, tKs, tJs, tSs, e_nf, lgs, ↓reduceIte, true_and, and_true, false_and, and_false, or_true, true_or, false_or, or_false, Nat.reduceAdd, Nat.reduceEqDiff, Nat.reduceDiv, Nat.reduceLT, Nat.reduceLeDiff, Nat.zero_add, reduceCtorEq, Bool.false_eq_true, Option.toList_some, Option.toList_none, List.cons_append, List.nil_append, not_true_eq_false, not_false_eq_true, Nat.sub_zero, dsX3_next, jsX3_next, xcX3_next, hk, hpl, ↓sp_X3_read, ↓sp_X3_readStepChange, ↓sp_X3_readValueChange, hmK, hmN, hmI, hmL, hmR, haI, haL, haR, c32, c64, rts, hz]
    refine ⟨p, hR, by omega, rse (aI M (rt M r)) p, (hR.mv.s (by decide)).s (by decide), by omega, fun h1 => ?_, fun h1 h2 => ?_, fun h1 h2 => ?_⟩
    · exact hq1 h1
    · obtain ⟨a1, a2, a3⟩ := hq2 h1 h2
      exact ⟨a1, a2, a3⟩
    · obtain ⟨f, a1, a2, a3⟩ := hq3 h1 h2
      refine ⟨f, a1, a2, ?_⟩
      exact ⟨hk, hk, hk, a3⟩
