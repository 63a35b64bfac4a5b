/-- a new block, and its constructor -/
def inB (M : HM) (b y : Nat) : HM := sI (sI (sL (sI (sL (sL (sL (sI (sI (sI (sI (sI (sR (sR (nA M 9 y 226) 0 b (some y)) 1 b none) 2 b 0) 3 b 0) 4 b 0) 5 b 0) 6 b 0) 7 b 0) 8 b 0) 9 b 0) 10 b 0) 11 b 0) 12 b 0) 13 b 0
def csX0_init : CS := (cs_c 1 3 1 9 sp_obj cs_0)
theorem csoX0_init : ∀ op x na cl sp, csX0_init op x = some (na, cl, sp) → CallOK 0 1 20 op x na cl sp := (cs_c_ok caX0_init_3 cs_0_ok)
theorem xcX0_init : (∀ (Q : QT) (G : GT) (pc : Nat) (L : LV) (a0 : Value) (r : List Value) (M : HM) (k n : Nat), ex_i 0 1 0 true csX0_init Q G (.invokespecial 3) pc L (a0 :: r) M k n = (e_rm r ∧ e_rc M 9 [a0] ∧ sp_obj [a0] M k n (fun v M' k' n' => G (pc + 3) L (v.toList ++ r) M' k' n'))) := (fun _ _ _ _ _ _ _ _ _ => xv1_1 rfl)
def sp_X0_init : SP := fun as M k n Q => match as with
  | [.ref b] => mK M b = 1 ∧ 1 ≤ k ∧ 226 ≤ n ∧ ∀ y, mK M y = 0 → Q none (inB M b y) (k - 1) (n - 226)
  | _ => False
set_option maxRecDepth 20000 in
theorem okX0_init : OkX0_init sp_X0_init := by
  refine inX0_init csoX0_init ?_
  intro as M k n Q hsp
  unfold sp_X0_init at hsp
  split at hsp
  rotate_left
  · exact hsp.elim
  rename_i b
  obtain ⟨hb, hk, hn, hq⟩ := hsp
  refine ⟨1, 226, hk, hn, Nat.le_of_ble_eq_true rfl, fun G hG => ?_⟩
  refine e_g2 hG [] 80 ?_
  have z1 : ¬ (226 : Int32) < 0 := by decide
  have z2 : (226 : Int32).toNatClampNeg = 226 := rfl
  have hne : ∀ y, mK M y = 0 → b ≠ y := fun y h e => by rw [e, h] at hb; cases hb
  simp only [e_wp_s, Option.getD_some, Option.isSome_some, Option.isSome_none, xis0, xis1, xis2, xis3, xis4, e_ks, lk_k, lk_c, List.lookup_nil, gt_c, vi_i, k1_n, k1_c, k2_n, k2_c, ar_n, ar_c, pk_n, pk_c, rm_0, rm_1, rm_2, rm_3, rm_4, rm_5, rc_9, rcs, fvs, rf_s, rf_n, isI_i, isL_l, isR_r, isR_n, isR_q, ct_i, ct_l, ct_r, ct_n, ct_q, tFs, tCs, tKs, tJs, tSs, e_nf, lgs, ↓reduceIte, true_and, and_true, false_and, and_false, or_true, true_or, false_or, or_false, Nat.reduceAdd, Nat.reduceEqDiff, Nat.reduceDiv, Nat.reduceLT, Nat.reduceLeDiff, Nat.zero_add, reduceCtorEq, Bool.false_eq_true, Option.toList_some, Option.toList_none, List.cons_append, List.nil_append, not_true_eq_false, not_false_eq_true, Nat.sub_zero, dsX0_init, xcX0_init, hb, ↓obj_e, z1, z2, hmK, hmN, hmI, hmL, hmR, haI, haL, haR]
  trace_state
  sorry
