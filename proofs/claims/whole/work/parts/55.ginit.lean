/-! a new gatherer -/
def csX1_init : CS := (cs_c 1 3 1 9 sp_obj (cs_c 1 34 1 3 sp_X3_init cs_0))
theorem csoX1_init : ∀ op x na cl sp, csX1_init op x = some (na, cl, sp) → CallOK 1 2 40 op x na cl sp := (cs_c_ok caX1_init_3 (cs_c_ok (caX1_init_34 okX3_init) cs_0_ok))
theorem xcX1_init : (∀ (Q : QT) (G : GT) (pc : Nat) (L : LV) (a0 : Value) (r : List Value) (M : HM) (k n : Nat), ex_i 1 1 0 true csX1_init Q G (.invokespecial 3) pc L (a0 :: r) M k n = (e_rm r ∧ e_rc M 9 [a0] ∧ sp_obj [a0] M k n (fun v M' k' n' => G (pc + 3) L (v.toList ++ r) M' k' n'))) ∧ (∀ (Q : QT) (G : GT) (pc : Nat) (L : LV) (a0 : Value) (r : List Value) (M : HM) (k n : Nat), ex_i 1 1 0 true csX1_init Q G (.invokespecial 34) pc L (a0 :: r) M k n = (e_rm r ∧ e_rc M 3 [a0] ∧ sp_X3_init [a0] M k n (fun v M' k' n' => G (pc + 3) L (v.toList ++ r) M' k' n'))) := ⟨(fun _ _ _ _ _ _ _ _ _ => xv1_1 rfl), (fun _ _ _ _ _ _ _ _ _ => xv1_1 rfl)⟩
def sp_X1_init : SP := fun as M k n Q => match as with
  | [.ref g] => ∃ O, mK M g = 2 ∧ (O g).1 = g ∧ 4 ≤ k ∧ 688 ≤ n ∧ ∀ O' M', GW O' M' g g → Fr (fun a _ => a = g) O O' M M' → Q none M' (k - 4) (n - 688)
  | _ => False
def inG (M : HM) (g y1 y2 : Nat) : HM := sI (sI (sI (sI (sR (nA (sR (nA M 9 y1 340) 32 g (some y1)) 10 y2 340) 33 g (some y2)) 34 g 0) 35 g 0) 36 g 0) 37 g 0
set_option maxRecDepth 20000 in
theorem okX1_init : OkX1_init sp_X1_init := by
  refine inX1_init csoX1_init ?_
  intro as M k n Q hsp
  unfold sp_X1_init at hsp
  split at hsp
  rotate_left
  · exact hsp.elim
  rename_i g
  obtain ⟨O, hb, ho, hk, hn, hq⟩ := hsp
  refine ⟨4, 688, hk, hn, Nat.le_of_ble_eq_true rfl, fun G hG => ?_⟩
  refine e_g2 hG [(43, [0])] 120 ?_
  have z1 : ¬ (340 : Int32) < 0 := by decide
  have z2 : (340 : Int32).toNatClampNeg = 340 := rfl
  have hne : ∀ y, mK M y = 0 → ¬ g = y := fun y h e => by rw [e, h] at hb; cases hb
  simp only [e_wp_s, Option.getD_some, Option.isSome_some, Option.isSome_none, xis0, xis1, xis2, xis3, xis4, e_ks, lk_k, lk_c, List.lookup_nil, gt_c, vi_i, k1_n, k1_c, k2_n, k2_c, ar_n, ar_c, pk_n, pk_c, rm_0, rm_1, rm_2, rm_3, rm_4, rm_5, rc_9, rcs, fvs, rf_s, rf_n, isI_i, isL_l, isR_r, isR_n, isR_q, ct_i, ct_l, ct_r, ct_n, ct_q, tFs, tCs, tKs, tJs, tSs, e_nf, lgs, ↓reduceIte, true_and, and_true, false_and, and_false, or_true, true_or, false_or, or_false, Nat.reduceAdd, Nat.reduceEqDiff, Nat.reduceDiv, Nat.reduceLT, Nat.reduceLeDiff, Nat.zero_add, reduceCtorEq, Bool.false_eq_true, Option.toList_some, Option.toList_none, List.cons_append, List.nil_append, not_true_eq_false, not_false_eq_true, Nat.sub_zero, dsX1_init, xcX1_init, hb, ↓obj_e, z1, z2, hmK, hmN, hmI, hmL, hmR, haI, haL, haR]
  have spl : ∀ {c d : Nat} {a b : Nat}, ¬ c = 0 → (if a = b then c else d) = 0 → ¬ a = b ∧ d = 0 := fun hc h => by
    split at h
    · exact absurd h hc
    · exact ⟨‹_›, h⟩
  intro y1 f1
  have s1 := hne _ f1
  simp only [s1, if_false, true_and]
  refine ⟨by decide, by decide, fun y2 h2 => ?_⟩
  obtain ⟨n21, f2⟩ := spl (by decide) h2
  have s2 := hne _ f2
  simp only [s2, if_false, true_and]
  show G 43 _ _ (inG M g y1 y2) _ _
  have m12 : ¬ y1 = y2 := fun e => n21 e.symm
  have xK : ∀ a, mK (inG M g y1 y2) a = if a = y2 then 10 else if a = y1 then 9 else mK M a := fun a => by unfold inG; simp only [hmK]
  have xN : ∀ a, mN (inG M g y1 y2) a = if a = y2 then 340 else if a = y1 then 340 else mN M a := fun a => by unfold inG; simp only [hmN]
  have r1 : mR (inG M g y1 y2) 32 g = some y1 := by unfold inG; simp only [hmR, Nat.reduceEqDiff, false_and, and_self, if_false, if_true]
  have r2 : mR (inG M g y1 y2) 33 g = some y2 := by unfold inG; simp only [hmR, Nat.reduceEqDiff, false_and, and_self, if_false, if_true]
  have xS : ∀ a, a ≠ g → a ≠ y1 → a ≠ y2 → Sm a M (inG M g y1 y2) := fun a a1 a2 a3 => by
    unfold inG
    exact sm_sI a1 (sm_sI a1 (sm_sI a1 (sm_sI a1 (sm_sR a1 (sm_nA a3 (sm_sR a1 (sm_nA a2 Sm.rf)))))))
  generalize inG M g y1 y2 = X at *
  have xg : mK X g = 2 := by rw [xK, if_neg s2, if_neg s1]; exact hb
  refine e_g2 hG [(50, [0])] 120 ?_
  simp only [e_wp_s, Option.getD_some, Option.isSome_some, Option.isSome_none, xis0, xis1, xis2, xis3, xis4, e_ks, lk_k, lk_c, List.lookup_nil, gt_c, vi_i, k1_n, k1_c, k2_n, k2_c, ar_n, ar_c, pk_n, pk_c, rm_0, rm_1, rm_2, rm_3, rm_4, rm_5, rc_9, rcs, fvs, rf_s, rf_n, isI_i, isL_l, isR_r, isR_n, isR_q, ct_i, ct_l, ct_r, ct_n, ct_q, tFs, tCs, tKs, tJs, tSs, e_nf, lgs, ↓reduceIte, true_and, and_true, false_and, and_false, or_true, true_or, false_or, or_false, Nat.reduceAdd, Nat.reduceEqDiff, Nat.reduceDiv, Nat.reduceLT, Nat.reduceLeDiff, Nat.zero_add, reduceCtorEq, Bool.false_eq_true, Option.toList_some, Option.toList_none, List.cons_append, List.nil_append, not_true_eq_false, not_false_eq_true, Nat.sub_zero, dsX1_init, xcX1_init, xg, ↓sp_X3_init, hmK, hmN, hmI, hmL, hmR, haI, haL, haR]
  refine ⟨by decide, by decide, fun q hq0 => ⟨by decide, fun y hy => ?_⟩⟩
  have q1 : ¬ q = y1 := fun e => by rw [e, xK, if_neg m12, if_pos rfl] at hq0; cases hq0
  have q2 : ¬ q = y2 := fun e => by rw [e, xK, if_pos rfl] at hq0; cases hq0
  have qg : ¬ g = q := fun e => by rw [← e, xg] at hq0; cases hq0
  have qg' : ¬ q = g := fun e => qg e.symm
  have qM : mK M q = 0 := by rw [xK, if_neg q2, if_neg q1] at hq0; exact hq0
  obtain ⟨yq, yX⟩ := spl (by decide) hy
  have y1' : ¬ y = y1 := fun e => by rw [e, xK, if_neg m12, if_pos rfl] at yX; cases yX
  have y2' : ¬ y = y2 := fun e => by rw [e, xK, if_pos rfl] at yX; cases yX
  have yg : ¬ g = y := fun e => by rw [← e, xg] at yX; cases yX
  have yM : mK M y = 0 := by rw [xK, if_neg y2', if_neg y1'] at yX; exact yX
  have yq' : ¬ q = y := fun e => yq e.symm
  have wK : ∀ a, mK (inR (nO X 3 q) q y) a = if a = y then 9 else if a = q then 4 else mK X a := fun a => by unfold inR; simp only [hmK]
  have wR : ∀ f, mR (inR (nO X 3 q) q y) f g = mR X f g := fun f => by unfold inR; simp only [hmR, qg, and_false, if_false]
  have wN : ∀ a, mN (inR (nO X 3 q) q y) a = if a = y then 0 else mN X a := fun a => by unfold inR; simp only [hmN]
  have wS : ∀ a, a ≠ q → a ≠ y → Sm a X (inR (nO X 3 q) q y) := fun a a1 a2 => by
    unfold inR
    exact sm_sI a1 (sm_sI a1 (sm_sI a1 (sm_sL a1 (sm_sI a1 (sm_sI a1 (sm_sI a1 (sm_sR a1 (sm_nA a2 (sm_nO a1 Sm.rf)))))))))
  generalize inR (nO X 3 q) q y = W at *
  have wg : mK W g = 2 := by rw [wK, if_neg yg, if_neg qg]; exact xg
  refine e_g2 hG [] 120 ?_
  simp only [e_wp_s, Option.getD_some, Option.isSome_some, Option.isSome_none, xis0, xis1, xis2, xis3, xis4, e_ks, lk_k, lk_c, List.lookup_nil, gt_c, vi_i, k1_n, k1_c, k2_n, k2_c, ar_n, ar_c, pk_n, pk_c, rm_0, rm_1, rm_2, rm_3, rm_4, rm_5, rc_9, rcs, fvs, rf_s, rf_n, isI_i, isL_l, isR_r, isR_n, isR_q, ct_i, ct_l, ct_r, ct_n, ct_q, tFs, tCs, tKs, tJs, tSs, e_nf, lgs, ↓reduceIte, true_and, and_true, false_and, and_false, or_true, true_or, false_or, or_false, Nat.reduceAdd, Nat.reduceEqDiff, Nat.reduceDiv, Nat.reduceLT, Nat.reduceLeDiff, Nat.zero_add, reduceCtorEq, Bool.false_eq_true, Option.toList_some, Option.toList_none, List.cons_append, List.nil_append, not_true_eq_false, not_false_eq_true, Nat.sub_zero, dsX1_init, xcX1_init, wg]
  have d1 : gta (sR W 38 g (some q)) g = y1 := by unfold gta; simp only [hmR, Nat.reduceEqDiff, false_and, if_false]; rw [wR, r1]; rfl
  have d2 : gva (sR W 38 g (some q)) g = y2 := by unfold gva; simp only [hmR, Nat.reduceEqDiff, false_and, if_false]; rw [wR, r2]; rfl
  have d3 : grd (sR W 38 g (some q)) g = q := by unfold grd; simp only [hmR, and_self, if_true]; rfl
  have n1y : ¬ y1 = y := fun e => y1' e.symm
  have n2y : ¬ y2 = y := fun e => y2' e.symm
  have n1q : ¬ y1 = q := fun e => q1 e.symm
  have n2q : ¬ y2 = q := fun e => q2 e.symm
  refine hq (fun a => if a = y1 ∨ a = y2 ∨ a = q ∨ a = y then (g, g) else O a) _ ⟨⟨?_, ⟨?_, ?_, ?_⟩, ⟨?_, ?_, ?_⟩, ⟨?_, ?_⟩⟩, ⟨?_, ?_, ?_, ?_⟩⟩ ?_
  · simp only [hmK]; exact wg
  · rw [d1]; simp only [hmR, Nat.reduceEqDiff, false_and, if_false]; rw [wR, r1]
  · rw [d1]; simp only [hmK]; rw [wK, if_neg n1y, if_neg n1q, xK, if_neg m12, if_pos rfl]
  · rw [d1]; simp only [hmN]; rw [wN, if_neg n1y, xN, if_neg m12, if_pos rfl]
  · rw [d2]; simp only [hmR, Nat.reduceEqDiff, false_and, if_false]; rw [wR, r2]
  · rw [d2]; simp only [hmK]; rw [wK, if_neg n2y, if_neg n2q, xK, if_pos rfl]
  · rw [d2]; simp only [hmN]; rw [wN, if_neg n2y, xN, if_pos rfl]
  · rw [d3]; simp only [hmR, and_self, if_true]
  · rw [d3]; simp only [hmK]; rw [wK, if_neg yq', if_pos rfl]
  · show (if g = y1 ∨ g = y2 ∨ g = q ∨ g = y then (g, g) else O g).1 = g
    simp only [s1, s2, qg, yg, or_self, if_false]; exact ho
  · rw [d1]; simp
  · rw [d2]; simp
  · rw [d3]; simp
  · intro a ha
    have a1 : ¬ a = y1 := fun e => by rw [e, f1] at ha; exact ha rfl
    have a2 : ¬ a = y2 := fun e => by rw [e, f2] at ha; exact ha rfl
    have a3 : ¬ a = q := fun e => by rw [e, qM] at ha; exact ha rfl
    have a4 : ¬ a = y := fun e => by rw [e, yM] at ha; exact ha rfl
    refine ⟨?_, by simp only [a1, a2, a3, a4, or_self, if_false], fun hs => ?_⟩
    · simp only [hmK]; rw [wK, if_neg a4, if_neg a3, xK, if_neg a2, if_neg a1]
    · exact sm_sR hs ((xS a hs a1 a2).tr (wS a a3 a4))
