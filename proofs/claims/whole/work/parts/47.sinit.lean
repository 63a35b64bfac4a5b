/-! Series: a new one -/
def csX4_init : CS := (cs_c 1 3 1 9 sp_obj (cs_c 2 47 2 9 sp_J7_fill_53178 cs_0))
theorem csoX4_init : ∀ op x na cl sp, csX4_init op x = some (na, cl, sp) → CallOK 4 1 23 op x na cl sp := (cs_c_ok caX4_init_3 (cs_c_ok (caX4_init_47 okJ7_fill_53178) cs_0_ok))
theorem xcX4_init : (∀ (Q : QT) (G : GT) (pc : Nat) (L : LV) (a0 : Value) (r : List Value) (M : HM) (k n : Nat), ex_i 4 2 0 true csX4_init Q G (.invokespecial 3) pc L (a0 :: r) M k n = (e_rm r ∧ e_rc M 9 [a0] ∧ sp_obj [a0] M k n (fun v M' k' n' => G (pc + 3) L (v.toList ++ r) M' k' n'))) ∧ (∀ (Q : QT) (G : GT) (pc : Nat) (L : LV) (a0 a1 : Value) (r : List Value) (M : HM) (k n : Nat), ex_i 4 2 0 true csX4_init Q G (.invokestatic 47) pc L (a1 :: a0 :: r) M k n = (e_rm r ∧ e_rc M 9 [a0, a1] ∧ sp_J7_fill_53178 [a0, a1] M k n (fun v M' k' n' => G (pc + 3) L (v.toList ++ r) M' k' n'))) := ⟨(fun _ _ _ _ _ _ _ _ _ => xv1_1 rfl), (fun _ _ _ _ _ _ _ _ _ _ => xv2_2 rfl)⟩
def sp_X4_init : SP := fun as M k n Q => match as with
  | [.ref s, .int kd] => ∃ O, mK M s = 5 ∧ O s = (s, s) ∧ 5 ≤ k ∧ 448 ≤ n ∧ ∀ O' M', SRep O' M' s kd (fun _ => -1) [] [] [] → Fr (fun a _ => a = s) O O' M M' → Q none M' (k - 5) (n - 448)
  | _ => False
def inR (M : HM) (s y1 y2 y3 y4 y5 : Nat) (kd : Int32) : HM := sI (sI (sR (nA (sR (nA (sI (sR (nA (sI (sR (nA (sR (nA M 9 y1 8) 129 s (some y1)) 13 y2 60) 130 s (some y2)) 131 s 0) 11 y3 300) 132 s (some y3)) 133 s 0) 9 y4 40) 134 s (some y4)) 10 y5 40) 135 s (some y5)) 136 s 0) 128 s kd
set_option maxRecDepth 20000 in
theorem okX4_init : OkX4_init sp_X4_init := by
  refine inX4_init csoX4_init ?_
  intro as M k n Q hsp
  unfold sp_X4_init at hsp
  split at hsp
  rotate_left
  · exact hsp.elim
  rename_i s kd
  obtain ⟨O, hb, ho, hk, hn, hq⟩ := hsp
  refine ⟨5, 448, hk, hn, Nat.le_of_ble_eq_true rfl, fun G hG => ?_⟩
  refine e_g2 hG [] 120 ?_
  have z1 : ¬ (8 : Int32) < 0 := by decide
  have z2 : (8 : Int32).toNatClampNeg = 8 := rfl
  have z3 : ¬ (60 : Int32) < 0 := by decide
  have z4 : (60 : Int32).toNatClampNeg = 60 := rfl
  have z5 : ¬ (300 : Int32) < 0 := by decide
  have z6 : (300 : Int32).toNatClampNeg = 300 := rfl
  have z7 : ¬ (40 : Int32) < 0 := by decide
  have z8 : (40 : Int32).toNatClampNeg = 40 := rfl
  have hne : ∀ y, mK M y = 0 → ¬ s = y := fun y h e => by rw [e, h] at hb; cases hb
  simp only [e_wp_s, Option.getD_some, Option.isSome_some, Option.isSome_none, xis0, xis1, xis2, xis3, xis4, e_ks, lk_k, lk_c, List.lookup_nil, gt_c, vi_i, k1_n, k1_c, k2_n, k2_c, ar_n, ar_c, pk_n, pk_c, rm_0, rm_1, rm_2, rm_3, rm_4, rm_5, rc_9, rcs, fvs, rf_s, rf_n, isI_i, isL_l, isR_r, isR_n, isR_q, ct_i, ct_l, ct_r, ct_n, ct_q, tFs, tCs, tKs, tJs, tSs, e_nf, lgs, ↓reduceIte, true_and, and_true, false_and, and_false, or_true, true_or, false_or, or_false, Nat.reduceAdd, Nat.reduceEqDiff, Nat.reduceDiv, Nat.reduceLT, Nat.reduceLeDiff, Nat.zero_add, reduceCtorEq, Bool.false_eq_true, Option.toList_some, Option.toList_none, List.cons_append, List.nil_append, not_true_eq_false, not_false_eq_true, Nat.sub_zero, dsX4_init, xcX4_init, hb, ↓obj_e, z1, z2, z3, z4, z5, z6, z7, z8, hmK, hmN, hmI, hmL, hmR, haI, haL, haR]
  sorry
