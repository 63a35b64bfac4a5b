theorem minL_e {x y : Int64} {M : HM} {k n : Nat} {Q : QT} : sp_minL [.long x, .long y] M k n Q = Q (some (.long (if y < x then y else x))) M k n := by simp [sp_minL]
theorem maxL_e {x y : Int64} {M : HM} {k n : Nat} {Q : QT} : sp_maxL [.long x, .long y] M k n Q = Q (some (.long (if y < x then x else y))) M k n := by simp [sp_maxL]
theorem minI_e {x y : Int32} {M : HM} {k n : Nat} {Q : QT} : sp_minI [.int x, .int y] M k n Q = Q (some (.int (if y < x then y else x))) M k n := by simp [sp_minI]
theorem maxI_e {x y : Int32} {M : HM} {k n : Nat} {Q : QT} : sp_maxI [.int x, .int y] M k n Q = Q (some (.int (if x < y then y else x))) M k n := by simp [sp_maxI]
theorem obj_e {a : Nat} {M : HM} {k n : Nat} {Q : QT} : sp_obj [.ref a] M k n Q = Q none M k n := by simp [sp_obj]
def sbits (f : Nat) : Nat := cl (e_sa 0 f)
def scb (x : Int32) : List Bool := (nb (((1 : Int32) <<< (nI (fof x) &&& 31)) - 1).toInt64 (fof x) ++ (if fof x < 4 then nb 0 1 else [])) ++ nb (x + e_sa 1 (fof x)).toInt64 (sbits (fof x))
theorem fof_le (x : Int32) : fof x ≤ 4 := by unfold fof; repeat' (first | omega | split)
theorem sb_le : ∀ f, f ≤ 4 → e_sa 0 f = nI (cl (e_sa 0 f)) ∧ cl (e_sa 0 f) ≤ 32
  | 0, _ => by decide
  | 1, _ => by decide
  | 2, _ => by decide
  | 3, _ => by decide
  | 4, _ => by decide
  | n + 5, h => absurd h (by omega)
theorem scb_len (x : Int32) : (scb x).length ≤ 36 := by
  have h := fof_le x
  unfold scb sbits
  generalize fof x = f at h ⊢
  have h2 := (sb_le f h).2
  match f, h with
  | 0, _ => simp [nb_len]; decide
  | 1, _ => simp [nb_len]; decide
  | 2, _ => simp [nb_len]; decide
  | 3, _ => simp [nb_len]; decide
  | 4, _ => simp [nb_len]; decide
  | n + 5, h => omega
def sp_X0_writeStepChange : SP := fun as M k n Q => match as with
  | [.ref b, .int x] => ∃ p, WB M b ∧ mI M 3 b = nI p ∧ p + 36 ≤ 1808 ∧ Q none (wrP M b p (scb x)) k n
  | _ => False
def csX0_writeStepChange : CS := (cs_c 2 101 1 9 sp_X0_formOf (cs_c 0 80 3 0 sp_X0_write cs_0))
theorem csoX0_writeStepChange : ∀ op x na cl sp, csX0_writeStepChange op x = some (na, cl, sp) → CallOK 0 1 25 op x na cl sp := (cs_c_ok (caX0_writeStepChange_101 okX0_formOf) (cs_c_ok (caX0_writeStepChange_80 okX0_write) cs_0_ok))
theorem xcX0_writeStepChange : (∀ (Q : QT) (G : GT) (pc : Nat) (L : LV) (a0 : Value) (r : List Value) (M : HM) (k n : Nat), ex_i 0 3 0 false csX0_writeStepChange Q G (.invokestatic 101) pc L (a0 :: r) M k n = (e_rm r ∧ e_rc M 9 [a0] ∧ sp_X0_formOf [a0] M k n (fun v M' k' n' => G (pc + 3) L (v.toList ++ r) M' k' n'))) ∧ (∀ (Q : QT) (G : GT) (pc : Nat) (L : LV) (a0 a1 a2 : Value) (r : List Value) (M : HM) (k n : Nat), ex_i 0 3 0 false csX0_writeStepChange Q G (.invokevirtual 80) pc L (a2 :: a1 :: a0 :: r) M k n = (e_rm r ∧ e_rc M 0 [a0, a1, a2] ∧ sp_X0_write [a0, a1, a2] M k n (fun v M' k' n' => G (pc + 3) L (v.toList ++ r) M' k' n'))) := ⟨(fun _ _ _ _ _ _ _ _ _ => xv2_1 rfl), (fun _ _ _ _ _ _ _ _ _ _ _ => xv0_3 rfl)⟩
theorem okX0_writeStepChange : OkX0_writeStepChange sp_X0_writeStepChange := by
  refine inX0_writeStepChange csoX0_writeStepChange ?_
  intro as M k n Q hsp
  unfold sp_X0_writeStepChange at hsp
  split at hsp
  rotate_left
  · exact hsp.elim
  rename_i b x
  obtain ⟨p, hw, hp, hl, hq⟩ := hsp
  have hb := hw.1
  refine ⟨0, 0, Nat.zero_le _, Nat.zero_le _, Nat.le_of_ble_eq_true rfl, fun G hG => ?_⟩
  have hle := fof_le x
  have hfo : nI (fof x) = nI (cl (nI (fof x))) := by unfold cl; rw [nI_clamp (by omega)]
  have hcl : cl (nI (fof x)) = fof x := nI_clamp (by omega)
  obtain ⟨s1, s2⟩ := sb_le (fof x) hle
  have c1 : cl (1 : Int32) = 1 := rfl
  have v1 : vp_in (nI (fof x)) 5 := vp_in_nI (by omega) (by decide)
  have v2 : (nI (fof x)).toNatClampNeg = fof x := nI_clamp (by omega)
  refine e_g2 hG [] 60 ?_
  simp only [e_wp_s, Option.getD_some, Option.isSome_some, Option.isSome_none, xis0, xis1, xis2, xis3, xis4, e_ks, lk_k, lk_c, List.lookup_nil, gt_c, vi_i, k1_n, k1_c, k2_n, k2_c, ar_n, ar_c, pk_n, pk_c, rm_0, rm_1, rm_2, rm_3, rm_4, rm_5, rc_9, rcs, fvs, rf_s, rf_n, isI_i, isL_l, isR_r, isR_n, isR_q, ct_i, ct_l, ct_r, ct_n, ct_q, tFs, tCs, tKs, tJs, tSs, e_nf, lgs, ↓reduceIte, true_and, and_true, false_and, and_false, or_true, true_or, false_or, or_false, Nat.reduceAdd, Nat.reduceEqDiff, Nat.reduceDiv, Nat.reduceLT, Nat.reduceLeDiff, Nat.zero_add, reduceCtorEq, Bool.false_eq_true, Option.toList_some, Option.toList_none, List.cons_append, List.nil_append, not_true_eq_false, not_false_eq_true, Nat.sub_zero, dsX0_writeStepChange, jsX0_writeStepChange, xcX0_writeStepChange, hb, ↓sp_X0_formOf, ↓sp_X0_write, wrPs, hw]
  refine ⟨p, hp, hfo, by omega, by omega, ?_⟩
  rw [hcl]
  by_cases h4 : fof x < 4
  · have h4' : nI (fof x) < 4 := nI_lt (b := 4) h4 (by decide)
    simp only [h4', if_true, c1]
    refine ⟨p + (nb (((1 : Int32) <<< (nI (fof x) &&& 31)) - 1).toInt64 (fof x)).length, by simp, rfl, by omega, by simp only [nb_len]; omega, ?_⟩
    intro t a1 a2 a3
    simp only [a1, a2, a3, v1, v2, or_true, true_and]
    intro t b1 b2 b3
    simp only [b1, b2, b3, v1, v2, or_true, true_and]
    refine ⟨p + (nb (((1 : Int32) <<< (nI (fof x) &&& 31)) - 1).toInt64 (fof x)).length + (nb 0 1).length, by simp, s1, by omega, by simp only [nb_len]; omega, ?_⟩
    rw [wrP_app, wrP_app]
    unfold scb at hq
    rw [if_pos h4, List.append_assoc] at hq
    exact hq
  · have h4' : ¬ nI (fof x) < 4 := nI_nlt (b := 4) (by omega) (by omega)
    simp only [h4', if_false]
    intro t a1 a2 a3
    simp only [a1, a2, a3, v1, v2, or_true, true_and]
    intro t b1 b2 b3
    simp only [b1, b2, b3, v1, v2, or_true, true_and]
    refine ⟨p + (nb (((1 : Int32) <<< (nI (fof x) &&& 31)) - 1).toInt64 (fof x)).length, by simp, s1, by omega, by simp only [nb_len]; omega, ?_⟩
    rw [wrP_app]
    unfold scb at hq
    rw [if_neg h4, List.append_nil] at hq
    exact hq
/-- what a change of value does -/
def ush (x : Int64) (k : Int32) : Int64 := (x.toUInt64 >>> (k.toInt64.toUInt64 &&& Int64.toUInt64 63)).toInt64
def vfit (fs fb : Int32) (x : Int64) : Prop := 0 < fb ∧ ¬ nlzL x < fs ∧ ¬ fs + fb < 64 - ntzL x
def vcb (fs fb : Int32) (x : Int64) : List Bool := nb 1 1 ++ (nb 0 1 ++ nb (ush x (64 - fs - fb)) (cl fb))
def vcn (x : Int64) : List Bool := nb 1 1 ++ (nb 1 1 ++ (nb (nlzL x).toInt64 6 ++ (nb (64 - ntzL x - nlzL x - 1).toInt64 6 ++ nb (ush x (ntzL x)) (cl (64 - ntzL x - nlzL x)))))
def LT (x : Int64) : Prop := x ≠ 0 → ∃ z t : Nat, nlzL x = nI z ∧ ntzL x = nI t ∧ z + t ≤ 63
def sp_X0_writeValueChange : SP := fun as M k n Q => match as with
  | [.ref b, .long x] => ∃ p, WB M b ∧ mI M 3 b = nI p ∧ p + 78 ≤ 1808 ∧ mI M 13 b = nI (cl (mI M 13 b)) ∧ cl (mI M 13 b) ≤ 64 ∧ LT x ∧
      (x = 0 → Q none (wrP M b p (nb 0 1)) k n) ∧ (¬ x = 0 → vfit (mI M 12 b) (mI M 13 b) x → Q none (wrP M b p (vcb (mI M 12 b) (mI M 13 b) x)) k n) ∧
      (¬ x = 0 → ¬ vfit (mI M 12 b) (mI M 13 b) x → Q none (sI (sI (wrP M b p (vcn x)) 12 b (nlzL x)) 13 b (64 - ntzL x - nlzL x)) k n)
  | _ => False
theorem wr_sI {M : HM} {b p f : Nat} {v : Int32} {bs : List Bool} (hf : f ≠ 3) : wrP (sI M f b v) b p bs = sI (wrP M b p bs) f b v := by
  unfold wrP
  refine hm_ext rfl rfl ?_ rfl rfl rfl rfl rfl
  funext g a
  simp only [hmI, hmU]
  by_cases e : g = 3
  · subst e
    by_cases e2 : a = b
    · simp [e2, Ne.symm hf]
    · simp [e2]
  · by_cases e2 : g = f ∧ a = b
    · obtain ⟨rfl, rfl⟩ := e2; simp [e]
    · simp [e, e2]
def csX0_writeValueChange : CS := (cs_c 0 80 3 0 sp_X0_write (cs_c 2 110 1 9 sp_J13_numberOfLeadingZeros_95d88 (cs_c 2 116 1 9 sp_J13_numberOfTrailingZeros_95d88 cs_0)))
theorem csoX0_writeValueChange : ∀ op x na cl sp, csX0_writeValueChange op x = some (na, cl, sp) → CallOK 0 2 43 op x na cl sp := (cs_c_ok (caX0_writeValueChange_80 okX0_write) (cs_c_ok (caX0_writeValueChange_110 okJ13_numberOfLeadingZeros_95d88) (cs_c_ok (caX0_writeValueChange_116 okJ13_numberOfTrailingZeros_95d88) cs_0_ok)))
theorem xcX0_writeValueChange : (∀ (Q : QT) (G : GT) (pc : Nat) (L : LV) (a0 a1 a2 : Value) (r : List Value) (M : HM) (k n : Nat), ex_i 0 6 0 false csX0_writeValueChange Q G (.invokevirtual 80) pc L (a2 :: a1 :: a0 :: r) M k n = (e_rm r ∧ e_rc M 0 [a0, a1, a2] ∧ sp_X0_write [a0, a1, a2] M k n (fun v M' k' n' => G (pc + 3) L (v.toList ++ r) M' k' n'))) ∧ (∀ (Q : QT) (G : GT) (pc : Nat) (L : LV) (a0 : Value) (r : List Value) (M : HM) (k n : Nat), ex_i 0 6 0 false csX0_writeValueChange Q G (.invokestatic 110) pc L (a0 :: r) M k n = (e_rm r ∧ e_rc M 9 [a0] ∧ sp_J13_numberOfLeadingZeros_95d88 [a0] M k n (fun v M' k' n' => G (pc + 3) L (v.toList ++ r) M' k' n'))) ∧ (∀ (Q : QT) (G : GT) (pc : Nat) (L : LV) (a0 : Value) (r : List Value) (M : HM) (k n : Nat), ex_i 0 6 0 false csX0_writeValueChange Q G (.invokestatic 116) pc L (a0 :: r) M k n = (e_rm r ∧ e_rc M 9 [a0] ∧ sp_J13_numberOfTrailingZeros_95d88 [a0] M k n (fun v M' k' n' => G (pc + 3) L (v.toList ++ r) M' k' n'))) := ⟨(fun _ _ _ _ _ _ _ _ _ _ _ => xv0_3 rfl), (fun _ _ _ _ _ _ _ _ _ => xv2_1 rfl), (fun _ _ _ _ _ _ _ _ _ => xv2_1 rfl)⟩
set_option maxRecDepth 20000 in
theorem okX0_writeValueChange : OkX0_writeValueChange sp_X0_writeValueChange := by
  refine inX0_writeValueChange csoX0_writeValueChange ?_
  intro as M k n Q hsp
  unfold sp_X0_writeValueChange at hsp
  split at hsp
  rotate_left
  · exact hsp.elim
  rename_i b x
  obtain ⟨p, hw, hp, hl, hf, hf2, hLT, hq0, hq1, hq2⟩ := hsp
  have hb := hw.1
  refine ⟨0, 0, Nat.zero_le _, Nat.zero_le _, Nat.le_of_ble_eq_true rfl, fun G hG => ?_⟩
  have c1 : cl (1 : Int32) = 1 := rfl
  have c6 : cl (6 : Int32) = 6 := rfl
  have one : (1 : Int32) = nI 1 := rfl
  refine e_g2 hG [] 80 ?_
  by_cases hx : x = 0
  · have hq := hq0 hx
    simp only [e_wp_s, Option.getD_some, Option.isSome_some, Option.isSome_none, xis0, xis1, xis2, xis3, xis4, e_ks, lk_k, lk_c, List.lookup_nil, gt_c, vi_i, k1_n, k1_c, k2_n, k2_c, ar_n, ar_c, pk_n, pk_c, rm_0, rm_1, rm_2, rm_3, rm_4, rm_5, rc_9, rcs, fvs, rf_s, rf_n, isI_i, isL_l, isR_r, isR_n, isR_q, ct_i, ct_l, ct_r, ct_n, ct_q, tFs, tCs, tKs, tJs, tSs, e_nf, lgs, ↓reduceIte, true_and, and_true, false_and, and_false, or_true, true_or, false_or, or_false, Nat.reduceAdd, Nat.reduceEqDiff, Nat.reduceDiv, Nat.reduceLT, Nat.reduceLeDiff, Nat.zero_add, reduceCtorEq, Bool.false_eq_true, Option.toList_some, Option.toList_none, List.cons_append, List.nil_append, not_true_eq_false, not_false_eq_true, Nat.sub_zero, dsX0_writeValueChange, jsX0_writeValueChange, xcX0_writeValueChange, hb, ↓sp_X0_write, hw, hx, c1]
    exact ⟨p, hp, rfl, by omega, hq⟩
  · obtain ⟨z, t, hz, ht, hzt⟩ := hLT hx
    simp only [e_wp_s, Option.getD_some, Option.isSome_some, Option.isSome_none, xis0, xis1, xis2, xis3, xis4, e_ks, lk_k, lk_c, List.lookup_nil, gt_c, vi_i, k1_n, k1_c, k2_n, k2_c, ar_n, ar_c, pk_n, pk_c, rm_0, rm_1, rm_2, rm_3, rm_4, rm_5, rc_9, rcs, fvs, rf_s, rf_n, isI_i, isL_l, isR_r, isR_n, isR_q, ct_i, ct_l, ct_r, ct_n, ct_q, tFs, tCs, tKs, tJs, tSs, e_nf, lgs, ↓reduceIte, true_and, and_true, false_and, and_false, or_true, true_or, false_or, or_false, Nat.reduceAdd, Nat.reduceEqDiff, Nat.reduceDiv, Nat.reduceLT, Nat.reduceLeDiff, Nat.zero_add, reduceCtorEq, Bool.false_eq_true, Option.toList_some, Option.toList_none, List.cons_append, List.nil_append, not_true_eq_false, not_false_eq_true, Nat.sub_zero, dsX0_writeValueChange, jsX0_writeValueChange, xcX0_writeValueChange, hb, ↓sp_X0_write, ↓sp_J13_numberOfLeadingZeros_95d88, ↓sp_J13_numberOfTrailingZeros_95d88, wrPs, wbs, bts, hmK, hmN, hmI, hmL, hmR, haI, haL, haR, hw, hx, c1, c6]
    refine ⟨p, hp, rfl, by omega, ?_⟩
    have ecl : 64 - ntzL x - nlzL x = nI (64 - t - z) := by rw [ht, hz, show (64 : Int32) = nI 64 from rfl, pk_sub (by omega), pk_sub (by omega)]
    have ecc : cl (64 - ntzL x - nlzL x) = 64 - t - z := by rw [ecl]; exact nI_clamp (by omega)
    have hw1 : 64 - ntzL x - nlzL x = nI (cl (64 - ntzL x - nlzL x)) := by rw [ecc]; exact ecl
    have hw2 : cl (64 - ntzL x - nlzL x) ≤ 64 := by rw [ecc]; omega
    by_cases d1 : 0 < mI M 13 b
    · by_cases d2 : nlzL x < mI M 12 b
      · simp only [d1, d2, if_true]
        have g := hq2 hx (fun w => w.2.1 d2)
        refine ⟨_, rfl, rfl, by simp only [nb_len]; omega, _, rfl, rfl, by simp only [nb_len]; omega, _, rfl, rfl, by simp only [nb_len]; omega, _, rfl, hw1, hw2, by simp only [nb_len]; omega, ?_⟩
        rw [wrP_app, wrP_app, wrP_app, wr_sI (by decide), wr_sI (by decide), wrP_app]
        exact g
      · by_cases d3 : mI M 12 b + mI M 13 b < 64 - ntzL x
        · simp only [d1, d2, d3, if_true, if_false]
          have g := hq2 hx (fun w => w.2.2 d3)
          refine ⟨_, rfl, rfl, by simp only [nb_len]; omega, _, rfl, rfl, by simp only [nb_len]; omega, _, rfl, rfl, by simp only [nb_len]; omega, _, rfl, hw1, hw2, by simp only [nb_len]; omega, ?_⟩
          rw [wrP_app, wrP_app, wrP_app, wr_sI (by decide), wr_sI (by decide), wrP_app]
          exact g
        · simp only [d1, d2, d3, if_true, if_false]
          have g := hq1 hx ⟨d1, d2, d3⟩
          refine ⟨_, rfl, rfl, by simp only [nb_len]; omega, _, rfl, hf, hf2, by simp only [nb_len]; omega, ?_⟩
          rw [wrP_app, wrP_app]
          exact g
    · simp only [d1, if_false]
      have g := hq2 hx (fun w => d1 w.1)
      refine ⟨_, rfl, rfl, by simp only [nb_len]; omega, _, rfl, rfl, by simp only [nb_len]; omega, _, rfl, rfl, by simp only [nb_len]; omega, _, rfl, hw1, hw2, by simp only [nb_len]; omega, ?_⟩
      rw [wrP_app, wrP_app, wrP_app, wr_sI (by decide), wr_sI (by decide), wrP_app]
      exact g
/-- the first point of a block; a later one; what both do -/
def apE (M : HM) (b : Nat) (t : Int32) (v : Int64) : HM := sI (sL (sL (sL (sL (sI M 6 b t) 11 b v) 7 b (if v < mL M 7 b then v else mL M 7 b)) 8 b (if v < mL M 8 b then mL M 8 b else v)) 9 b (mL M 9 b + v)) 4 b (mI M 4 b + 1)
def ap0 (M : HM) (b p : Nat) (t : Int32) (v : Int64) : HM := sL (sL (sI (wrP M b p (nb t.toInt64 32 ++ nb v 64)) 5 b t) 7 b v) 8 b v
def apS (M : HM) (b : Nat) (t : Int32) : List Bool := scb (t - mI M 6 b - mI M 10 b)
def sp_X0_append : SP := fun as M k n Q => match as with
  | [.ref b, .int t, .long v] => ∃ p, WB M b ∧ mI M 3 b = nI p ∧ p + 114 ≤ 1808 ∧ mI M 13 b = nI (cl (mI M 13 b)) ∧ cl (mI M 13 b) ≤ 64 ∧ LT (v ^^^ mL M 11 b) ∧
      (mI M 4 b = 0 → Q none (apE (ap0 M b p t v) b t v) k n) ∧
      (¬ mI M 4 b = 0 → v ^^^ mL M 11 b = 0 → Q none (apE (sI (wrP M b p (apS M b t ++ nb 0 1)) 10 b (t - mI M 6 b)) b t v) k n) ∧
      (¬ mI M 4 b = 0 → ¬ v ^^^ mL M 11 b = 0 → vfit (mI M 12 b) (mI M 13 b) (v ^^^ mL M 11 b) → Q none (apE (sI (wrP M b p (apS M b t ++ vcb (mI M 12 b) (mI M 13 b) (v ^^^ mL M 11 b))) 10 b (t - mI M 6 b)) b t v) k n) ∧
      (¬ mI M 4 b = 0 → ¬ v ^^^ mL M 11 b = 0 → ¬ vfit (mI M 12 b) (mI M 13 b) (v ^^^ mL M 11 b) → Q none (apE (sI (sI (sI (wrP M b p (apS M b t ++ vcn (v ^^^ mL M 11 b))) 12 b (nlzL (v ^^^ mL M 11 b))) 13 b (64 - ntzL (v ^^^ mL M 11 b) - nlzL (v ^^^ mL M 11 b))) 10 b (t - mI M 6 b)) b t v) k n)
  | _ => False
def csX0_append : CS := (cs_c 0 80 3 0 sp_X0_write (cs_c 0 84 2 0 sp_X0_writeStepChange (cs_c 0 88 2 0 sp_X0_writeValueChange (cs_c 2 92 2 9 sp_minL (cs_c 2 98 2 9 sp_maxL cs_0)))))
theorem csoX0_append : ∀ op x na cl sp, csX0_append op x = some (na, cl, sp) → CallOK 0 3 68 op x na cl sp := (cs_c_ok (caX0_append_80 okX0_write) (cs_c_ok (caX0_append_84 okX0_writeStepChange) (cs_c_ok (caX0_append_88 okX0_writeValueChange) (cs_c_ok caX0_append_92 (cs_c_ok caX0_append_98 cs_0_ok)))))
theorem xcX0_append : (∀ (Q : QT) (G : GT) (pc : Nat) (L : LV) (a0 a1 a2 : Value) (r : List Value) (M : HM) (k n : Nat), ex_i 0 5 0 false csX0_append Q G (.invokevirtual 80) pc L (a2 :: a1 :: a0 :: r) M k n = (e_rm r ∧ e_rc M 0 [a0, a1, a2] ∧ sp_X0_write [a0, a1, a2] M k n (fun v M' k' n' => G (pc + 3) L (v.toList ++ r) M' k' n'))) ∧ (∀ (Q : QT) (G : GT) (pc : Nat) (L : LV) (a0 a1 : Value) (r : List Value) (M : HM) (k n : Nat), ex_i 0 5 0 false csX0_append Q G (.invokevirtual 84) pc L (a1 :: a0 :: r) M k n = (e_rm r ∧ e_rc M 0 [a0, a1] ∧ sp_X0_writeStepChange [a0, a1] M k n (fun v M' k' n' => G (pc + 3) L (v.toList ++ r) M' k' n'))) ∧ (∀ (Q : QT) (G : GT) (pc : Nat) (L : LV) (a0 a1 : Value) (r : List Value) (M : HM) (k n : Nat), ex_i 0 5 0 false csX0_append Q G (.invokevirtual 88) pc L (a1 :: a0 :: r) M k n = (e_rm r ∧ e_rc M 0 [a0, a1] ∧ sp_X0_writeValueChange [a0, a1] M k n (fun v M' k' n' => G (pc + 3) L (v.toList ++ r) M' k' n'))) ∧ (∀ (Q : QT) (G : GT) (pc : Nat) (L : LV) (a0 a1 : Value) (r : List Value) (M : HM) (k n : Nat), ex_i 0 5 0 false csX0_append Q G (.invokestatic 92) pc L (a1 :: a0 :: r) M k n = (e_rm r ∧ e_rc M 9 [a0, a1] ∧ sp_minL [a0, a1] M k n (fun v M' k' n' => G (pc + 3) L (v.toList ++ r) M' k' n'))) ∧ (∀ (Q : QT) (G : GT) (pc : Nat) (L : LV) (a0 a1 : Value) (r : List Value) (M : HM) (k n : Nat), ex_i 0 5 0 false csX0_append Q G (.invokestatic 98) pc L (a1 :: a0 :: r) M k n = (e_rm r ∧ e_rc M 9 [a0, a1] ∧ sp_maxL [a0, a1] M k n (fun v M' k' n' => G (pc + 3) L (v.toList ++ r) M' k' n'))) := ⟨(fun _ _ _ _ _ _ _ _ _ _ _ => xv0_3 rfl), (fun _ _ _ _ _ _ _ _ _ _ => xv0_2 rfl), (fun _ _ _ _ _ _ _ _ _ _ => xv0_2 rfl), (fun _ _ _ _ _ _ _ _ _ _ => xv2_2 rfl), (fun _ _ _ _ _ _ _ _ _ _ => xv2_2 rfl)⟩
set_option maxRecDepth 20000 in
theorem okX0_append : OkX0_append sp_X0_append := by
  refine inX0_append csoX0_append ?_
  intro as M k n Q hsp
  unfold sp_X0_append at hsp
  split at hsp
  rotate_left
  · exact hsp.elim
  rename_i b t v
  obtain ⟨p, hw, hp, hl, hf, hf2, hLT, hq0, hq1, hq2, hq3⟩ := hsp
  have hb := hw.1
  refine ⟨0, 0, Nat.zero_le _, Nat.zero_le _, Nat.le_of_ble_eq_true rfl, fun G hG => ?_⟩
  have c32 : cl (32 : Int32) = 32 := rfl
  have c64 : cl (64 : Int32) = 64 := rfl
  refine e_g2 hG [] 80 ?_
  by_cases hx : mI M 4 b = 0
  · have hq := hq0 hx
    simp only [e_wp_s, Option.getD_some, Option.isSome_some, Option.isSome_none, xis0, xis1, xis2, xis3, xis4, e_ks, lk_k, lk_c, List.lookup_nil, gt_c, vi_i, k1_n, k1_c, k2_n, k2_c, ar_n, ar_c, pk_n, pk_c, rm_0, rm_1, rm_2, rm_3, rm_4, rm_5, rc_9, rcs, fvs, rf_s, rf_n, isI_i, isL_l, isR_r, isR_n, isR_q, ct_i, ct_l, ct_r, ct_n, ct_q, tFs, tCs, tKs, tJs, tSs, e_nf, lgs, ↓reduceIte, true_and, and_true, false_and, and_false, or_true, true_or, false_or, or_false, Nat.reduceAdd, Nat.reduceEqDiff, Nat.reduceDiv, Nat.reduceLT, Nat.reduceLeDiff, Nat.zero_add, reduceCtorEq, Bool.false_eq_true, Option.toList_some, Option.toList_none, List.cons_append, List.nil_append, not_true_eq_false, not_false_eq_true, Nat.sub_zero, dsX0_append, jsX0_append, xcX0_append, hb, ↓sp_X0_write, ↓sp_X0_writeStepChange, ↓sp_X0_writeValueChange, ↓minL_e, ↓maxL_e, wrPs, wbs, bts, hmK, hmN, hmI, hmL, hmR, haI, haL, haR, hw, hx, c32, c64]
    refine ⟨p, hp, rfl, by omega, _, rfl, rfl, by simp only [nb_len]; omega, ?_⟩
    rw [wrP_app]
    unfold apE ap0 at hq
    simp only [hmK, hmN, hmI, hmL, hmR, wrPs, hx, and_self, if_true, if_false, Nat.reduceEqDiff, false_and, ↓reduceIte] at hq
    exact hq
  · simp only [e_wp_s, Option.getD_some, Option.isSome_some, Option.isSome_none, xis0, xis1, xis2, xis3, xis4, e_ks, lk_k, lk_c, List.lookup_nil, gt_c, vi_i, k1_n, k1_c, k2_n, k2_c, ar_n, ar_c, pk_n, pk_c, rm_0, rm_1, rm_2, rm_3, rm_4, rm_5, rc_9, rcs, fvs, rf_s, rf_n, isI_i, isL_l, isR_r, isR_n, isR_q, ct_i, ct_l, ct_r, ct_n, ct_q, tFs, tCs, tKs, tJs, tSs, e_nf, lgs, ↓reduceIte, true_and, and_true, false_and, and_false, or_true, true_or, false_or, or_false, Nat.reduceAdd, Nat.reduceEqDiff, Nat.reduceDiv, Nat.reduceLT, Nat.reduceLeDiff, Nat.zero_add, reduceCtorEq, Bool.false_eq_true, Option.toList_some, Option.toList_none, List.cons_append, List.nil_append, not_true_eq_false, not_false_eq_true, Nat.sub_zero, dsX0_append, jsX0_append, xcX0_append, hb, ↓sp_X0_write, ↓sp_X0_writeStepChange, ↓sp_X0_writeValueChange, ↓minL_e, ↓maxL_e, wrPs, wbs, bts, hmK, hmN, hmI, hmL, hmR, haI, haL, haR, hw, hx, c32, c64]
    have hs := scb_len (t - mI M 6 b - mI M 10 b)
    refine ⟨p, hp, by omega, _, rfl, by omega, hf, hf2, hLT, fun h1 => ?_, fun h1 h2 => ?_, fun h1 h2 => ?_⟩
    · have hq := hq1 hx h1
      rw [wrP_app]
      unfold apE apS at hq
      simp only [hmK, hmN, hmI, hmL, hmR, wrPs, and_self, if_true, if_false, Nat.reduceEqDiff, false_and, ↓reduceIte] at hq
      exact hq
    · have hq := hq2 hx h1 h2
      rw [wrP_app]
      unfold apE apS at hq
      simp only [hmK, hmN, hmI, hmL, hmR, wrPs, and_self, if_true, if_false, Nat.reduceEqDiff, false_and, ↓reduceIte] at hq
      exact hq
    · have hq := hq3 hx h1 h2
      rw [wrP_app]
      unfold apE apS at hq
      simp only [hmK, hmN, hmI, hmL, hmR, wrPs, and_self, if_true, if_false, Nat.reduceEqDiff, false_and, ↓reduceIte] at hq
      exact hq
