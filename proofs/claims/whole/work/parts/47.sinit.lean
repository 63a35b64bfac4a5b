/-! Series: a new one -/
def csX4_init : CS := (cs_c 1 3 1 9 sp_obj (cs_c 2 47 2 9 sp_J7_fill_53178 cs_0))
theorem csoX4_init : ∀ op x na cl sp, csX4_init op x = some (na, cl, sp) → CallOK 4 1 23 op x na cl sp := (cs_c_ok caX4_init_3 (cs_c_ok (caX4_init_47 okJ7_fill_53178) cs_0_ok))
theorem xcX4_init : (∀ (Q : QT) (G : GT) (pc : Nat) (L : LV) (a0 : Value) (r : List Value) (M : HM) (k n : Nat), ex_i 4 2 0 true csX4_init Q G (.invokespecial 3) pc L (a0 :: r) M k n = (e_rm r ∧ e_rc M 9 [a0] ∧ sp_obj [a0] M k n (fun v M' k' n' => G (pc + 3) L (v.toList ++ r) M' k' n'))) ∧ (∀ (Q : QT) (G : GT) (pc : Nat) (L : LV) (a0 a1 : Value) (r : List Value) (M : HM) (k n : Nat), ex_i 4 2 0 true csX4_init Q G (.invokestatic 47) pc L (a1 :: a0 :: r) M k n = (e_rm r ∧ e_rc M 9 [a0, a1] ∧ sp_J7_fill_53178 [a0, a1] M k n (fun v M' k' n' => G (pc + 3) L (v.toList ++ r) M' k' n'))) := ⟨(fun _ _ _ _ _ _ _ _ _ => xv1_1 rfl), (fun _ _ _ _ _ _ _ _ _ _ => xv2_2 rfl)⟩
def sp_X4_init : SP := fun as M k n Q => match as with
  | [.ref s, .int kd] => ∃ O, mK M s = 5 ∧ O s = (s, s) ∧ 5 ≤ k ∧ 448 ≤ n ∧ ∀ O' M', SRep O' M' s kd (fun _ => -1) [] [] [] → Fr (fun a _ => a = s) O O' M M' → Q none M' (k - 5) (n - 448)
  | _ => False
def inSr (M : HM) (s y1 y2 y3 y4 y5 : Nat) (kd : Int32) : HM := sI (sI (sR (nA (sR (nA (sI (sR (nA (sI (sR (nA (sR (nA M 9 y1 8) 129 s (some y1)) 13 y2 60) 130 s (some y2)) 131 s 0) 11 y3 300) 132 s (some y3)) 133 s 0) 9 y4 40) 134 s (some y4)) 10 y5 40) 135 s (some y5)) 136 s 0) 128 s kd
theorem inSr_S {O : GH} {M : HM} {s y1 y2 y3 y4 y5 : Nat} {kd : Int32} {h : Nat → Int32} (hb : mK M s = 5) (ho : O s = (s, s)) (f1 : mK M y1 = 0) (f2 : mK M y2 = 0) (f3 : mK M y3 = 0) (f4 : mK M y4 = 0) (f5 : mK M y5 = 0) (n21 : ¬ y2 = y1) (n31 : ¬ y3 = y1) (n32 : ¬ y3 = y2) (n41 : ¬ y4 = y1) (n42 : ¬ y4 = y2) (n43 : ¬ y4 = y3) (n51 : ¬ y5 = y1) (n52 : ¬ y5 = y2) (n53 : ¬ y5 = y3) (n54 : ¬ y5 = y4) (hh : ∀ i, i < 8 → h i = -1) :
    ∃ O', SRep O' (uI (inSr M s y1 y2 y3 y4 y5 kd) y1 h) s kd (fun _ => -1) [] [] [] ∧ Fr (fun a _ => a = s) O O' M (uI (inSr M s y1 y2 y3 y4 y5 kd) y1 h) := by
  have m12 : ¬ y1 = y2 := fun e => n21 e.symm
  have m13 : ¬ y1 = y3 := fun e => n31 e.symm
  have m23 : ¬ y2 = y3 := fun e => n32 e.symm
  have m14 : ¬ y1 = y4 := fun e => n41 e.symm
  have m24 : ¬ y2 = y4 := fun e => n42 e.symm
  have m34 : ¬ y3 = y4 := fun e => n43 e.symm
  have m15 : ¬ y1 = y5 := fun e => n51 e.symm
  have m25 : ¬ y2 = y5 := fun e => n52 e.symm
  have m35 : ¬ y3 = y5 := fun e => n53 e.symm
  have m45 : ¬ y4 = y5 := fun e => n54 e.symm
  have hne : ∀ y, mK M y = 0 → ¬ s = y := fun y h e => by rw [e, h] at hb; cases hb
  have s1 := hne _ f1
  have s2 := hne _ f2
  have s3 := hne _ f3
  have s4 := hne _ f4
  have s5 := hne _ f5
  obtain ⟨X, hX⟩ : ∃ X, X = uI (inSr M s y1 y2 y3 y4 y5 kd) y1 h := ⟨_, rfl⟩
  rw [← hX]
  have xK : ∀ a, mK X a = if a = y5 then 10 else if a = y4 then 9 else if a = y3 then 11 else if a = y2 then 13 else if a = y1 then 9 else mK M a := fun a => by rw [hX]; unfold inSr; simp only [hmU, hmK]
  have xN : ∀ a, mN X a = if a = y5 then 40 else if a = y4 then 40 else if a = y3 then 300 else if a = y2 then 60 else if a = y1 then 8 else mN M a := fun a => by rw [hX]; unfold inSr; simp only [hmU, hmN]
  have r1 : mR X 129 s = some y1 := by rw [hX]; unfold inSr; simp only [hmU, hmR, Nat.reduceEqDiff, false_and, and_self, if_false, if_true]
  have r2 : mR X 130 s = some y2 := by rw [hX]; unfold inSr; simp only [hmU, hmR, Nat.reduceEqDiff, false_and, and_self, if_false, if_true]
  have r3 : mR X 132 s = some y3 := by rw [hX]; unfold inSr; simp only [hmU, hmR, Nat.reduceEqDiff, false_and, and_self, if_false, if_true]
  have r4 : mR X 134 s = some y4 := by rw [hX]; unfold inSr; simp only [hmU, hmR, Nat.reduceEqDiff, false_and, and_self, if_false, if_true]
  have r5 : mR X 135 s = some y5 := by rw [hX]; unfold inSr; simp only [hmU, hmR, Nat.reduceEqDiff, false_and, and_self, if_false, if_true]
  have i1 : mI X 128 s = kd := by rw [hX]; unfold inSr; simp only [hmU, hmI, Nat.reduceEqDiff, false_and, and_self, if_false, if_true]
  have i2 : mI X 131 s = 0 := by rw [hX]; unfold inSr; simp only [hmU, hmI, Nat.reduceEqDiff, false_and, and_self, if_false, if_true]
  have i3 : mI X 133 s = 0 := by rw [hX]; unfold inSr; simp only [hmU, hmI, Nat.reduceEqDiff, false_and, and_self, if_false, if_true]
  have i4 : mI X 136 s = 0 := by rw [hX]; unfold inSr; simp only [hmU, hmI, Nat.reduceEqDiff, false_and, and_self, if_false, if_true]
  have l1 : aI X y1 = h := by rw [hX]; simp only [hmU, if_true]
  have l2 : ∀ i, aR X y2 i = none := fun i => by rw [hX]; unfold inSr; simp only [hmU, haR, m25, m24, m23, if_false, if_true]
  have l3 : ∀ i, aR X y3 i = none := fun i => by rw [hX]; unfold inSr; simp only [hmU, haR, m35, m34, if_false, if_true]
  have d1 : lb X s = y1 := by unfold lb; rw [r1]; rfl
  have d2 : sps X s = y2 := by unfold sps; rw [r2]; rfl
  have d3 : bks X s = y3 := by unfold bks; rw [r3]; rfl
  have d4 : ltt X s = y4 := by unfold ltt; rw [r4]; rfl
  have d5 : ltv X s = y5 := by unfold ltv; rw [r5]; rfl
  refine ⟨fun a => if a = y1 ∨ a = y2 ∨ a = y3 ∨ a = y4 ∨ a = y5 then (s, s) else O a, ⟨⟨⟨?_, ⟨?_, ?_, ?_⟩, ⟨?_, ?_, ?_⟩, ⟨?_, ?_, ?_⟩, ⟨?_, ?_, ?_⟩, ⟨?_, ?_, ?_⟩⟩, ⟨?_, ?_, ?_, ?_, ?_, ?_, ?_⟩⟩, ⟨i1, ?_⟩, ⟨i2, ?_⟩, ⟨i3, ?_⟩, ⟨i4, by decide, rfl⟩⟩, ?_⟩
  · rw [xK]; simp only [s1, s2, s3, s4, s5, if_false]; exact hb
  · rw [d1]; exact r1
  · rw [d1, xK]; simp only [m12, m13, m14, m15, if_false, if_true]
  · rw [d1, xN]; simp only [m12, m13, m14, m15, if_false, if_true]
  · rw [d2]; exact r2
  · rw [d2, xK]; simp only [m23, m24, m25, if_false, if_true]
  · rw [d2, xN]; simp only [m23, m24, m25, if_false, if_true]
  · rw [d3]; exact r3
  · rw [d3, xK]; simp only [m34, m35, if_false, if_true]
  · rw [d3, xN]; simp only [m34, m35, if_false, if_true]
  · rw [d4]; exact r4
  · rw [d4, xK]; simp only [m45, if_false, if_true]
  · rw [d4, xN]; simp only [m45, if_false, if_true]
  · rw [d5]; exact r5
  · rw [d5, xK]; simp only [if_true]
  · rw [d5, xN]; simp only [if_true]
  · show (if s = y1 ∨ s = y2 ∨ s = y3 ∨ s = y4 ∨ s = y5 then (s, s) else O s) = _
    simp only [s1, s2, s3, s4, s5, or_self, if_false]; exact ho
  · rw [d1]; simp
  · rw [d2]; simp
  · rw [d3]; simp
  · rw [d4]; simp
  · rw [d5]; simp
  · rw [d1, d4]; exact m14
  · intro i hi; rw [d1, l1]; exact hh i hi
  · rw [d2]
    exact ⟨by decide, fun i a _ ha => (by rw [l2] at ha; cases ha), fun i x hx => (by simp at hx), fun i j a _ _ ha => (by rw [l2] at ha; cases ha)⟩
  · rw [d3]
    exact ⟨by decide, fun i a _ ha => (by rw [l3] at ha; cases ha), fun i x hx => (by simp at hx), fun i j a _ _ ha => (by rw [l3] at ha; cases ha)⟩
  · intro a ha
    have a1 : ¬ a = y1 := fun e => by rw [e, f1] at ha; exact ha rfl
    have a2 : ¬ a = y2 := fun e => by rw [e, f2] at ha; exact ha rfl
    have a3 : ¬ a = y3 := fun e => by rw [e, f3] at ha; exact ha rfl
    have a4 : ¬ a = y4 := fun e => by rw [e, f4] at ha; exact ha rfl
    have a5 : ¬ a = y5 := fun e => by rw [e, f5] at ha; exact ha rfl
    refine ⟨by rw [xK]; simp only [a1, a2, a3, a4, a5, if_false], by simp only [a1, a2, a3, a4, a5, or_self, if_false], fun hs => ?_⟩
    rw [hX]
    unfold inSr
    exact sm_uI a1 (sm_sI hs (sm_sI hs (sm_sR hs (sm_nA a5 (sm_sR hs (sm_nA a4 (sm_sI hs (sm_sR hs (sm_nA a3 (sm_sI hs (sm_sR hs (sm_nA a2 (sm_sR hs (sm_nA a1 Sm.rf))))))))))))))
set_option maxRecDepth 20000 in
theorem okX4_init : OkX4_init sp_X4_init := by
  refine inX4_init csoX4_init ?_
  intro as M k n Q hsp
  unfold sp_X4_init at hsp
  split at hsp
  rotate_left
  · exact hsp.elim
  rename_i s kd
  obtain ⟨O, hb, ho, hk, hn, hq⟩ := hsp
  refine ⟨5, 448, hk, hn, Nat.le_of_ble_eq_true rfl, fun G hG => ?_⟩
  refine e_g2 hG [(75, [])] 120 ?_
  have z1 : ¬ (8 : Int32) < 0 := by decide
  have z2 : (8 : Int32).toNatClampNeg = 8 := rfl
  have z3 : ¬ (60 : Int32) < 0 := by decide
  have z4 : (60 : Int32).toNatClampNeg = 60 := rfl
  have z5 : ¬ (300 : Int32) < 0 := by decide
  have z6 : (300 : Int32).toNatClampNeg = 300 := rfl
  have z7 : ¬ (40 : Int32) < 0 := by decide
  have z8 : (40 : Int32).toNatClampNeg = 40 := rfl
  have hne : ∀ y, mK M y = 0 → ¬ s = y := fun y h e => by rw [e, h] at hb; cases hb
  have ak5 : e_ak 5 = 13 := rfl
  have ak0 : e_ak 0 = 11 := rfl
  simp only [e_wp_s, Option.getD_some, Option.isSome_some, Option.isSome_none, xis0, xis1, xis2, xis3, xis4, e_ks, lk_k, lk_c, List.lookup_nil, gt_c, vi_i, k1_n, k1_c, k2_n, k2_c, ar_n, ar_c, pk_n, pk_c, rm_0, rm_1, rm_2, rm_3, rm_4, rm_5, rc_9, rcs, fvs, rf_s, rf_n, isI_i, isL_l, isR_r, isR_n, isR_q, ct_i, ct_l, ct_r, ct_n, ct_q, tFs, tCs, tKs, tJs, tSs, e_nf, lgs, ↓reduceIte, true_and, and_true, false_and, and_false, or_true, true_or, false_or, or_false, Nat.reduceAdd, Nat.reduceEqDiff, Nat.reduceDiv, Nat.reduceLT, Nat.reduceLeDiff, Nat.zero_add, reduceCtorEq, Bool.false_eq_true, Option.toList_some, Option.toList_none, List.cons_append, List.nil_append, not_true_eq_false, not_false_eq_true, Nat.sub_zero, dsX4_init, xcX4_init, hb, ↓obj_e, z1, z2, z3, z4, z5, z6, z7, z8, hmK, hmN, hmI, hmL, hmR, haI, haL, haR, ak5, ak0]
  have spl : ∀ {c d : Nat} {a b : Nat}, ¬ c = 0 → (if a = b then c else d) = 0 → ¬ a = b ∧ d = 0 := fun hc h => by
    split at h
    · exact absurd h hc
    · exact ⟨‹_›, h⟩
  intro y1 f1
  have s1 := hne _ f1
  simp only [s1, if_false, true_and]
  refine ⟨by decide, by decide, fun y2 h2 => ?_⟩
  obtain ⟨n21, f2⟩ := spl (by decide) h2
  have s2 := hne _ f2
  simp only [s2, if_false, true_and]
  refine ⟨by decide, by decide, fun y3 h3 => ?_⟩
  obtain ⟨n32, h3⟩ := spl (by decide) h3
  obtain ⟨n31, f3⟩ := spl (by decide) h3
  have s3 := hne _ f3
  simp only [s3, if_false, true_and]
  refine ⟨by decide, by decide, fun y4 h4 => ?_⟩
  obtain ⟨n43, h4⟩ := spl (by decide) h4
  obtain ⟨n42, h4⟩ := spl (by decide) h4
  obtain ⟨n41, f4⟩ := spl (by decide) h4
  have s4 := hne _ f4
  simp only [s4, if_false, true_and]
  refine ⟨by decide, by decide, fun y5 h5 => ?_⟩
  obtain ⟨n54, h5⟩ := spl (by decide) h5
  obtain ⟨n53, h5⟩ := spl (by decide) h5
  obtain ⟨n52, h5⟩ := spl (by decide) h5
  obtain ⟨n51, f5⟩ := spl (by decide) h5
  have s5 := hne _ f5
  simp only [s5, if_false, true_and]
  have m12 : ¬ y1 = y2 := fun e => n21 e.symm
  have m13 : ¬ y1 = y3 := fun e => n31 e.symm
  have m14 : ¬ y1 = y4 := fun e => n41 e.symm
  have m15 : ¬ y1 = y5 := fun e => n51 e.symm
  have hN : mN (inSr M s y1 y2 y3 y4 y5 kd) y1 = 8 := by unfold inSr; simp only [hmN, m12, m13, m14, m15, if_false, if_true]
  refine ⟨by simp only [hmK, m12, m13, m14, m15, if_false, if_true], by show mN (inSr M s y1 y2 y3 y4 y5 kd) y1 < 2 ^ 31; rw [hN]; decide, ?_⟩
  refine e_g2 hG [] 20 ?_
  simp only [e_wp_s, Option.getD_some, Option.isSome_some, Option.isSome_none, xis0, xis1, xis2, xis3, xis4, e_ks, lk_k, lk_c, List.lookup_nil, gt_c, vi_i, k1_n, k1_c, k2_n, k2_c, ar_n, ar_c, pk_n, pk_c, rm_0, rm_1, rm_2, rm_3, rm_4, rm_5, rc_9, rcs, fvs, rf_s, rf_n, isI_i, isL_l, isR_r, isR_n, isR_q, ct_i, ct_l, ct_r, ct_n, ct_q, tFs, tCs, tKs, tJs, tSs, e_nf, lgs, ↓reduceIte, true_and, and_true, false_and, and_false, or_true, true_or, false_or, or_false, Nat.reduceAdd, Nat.reduceEqDiff, Nat.reduceDiv, Nat.reduceLT, Nat.reduceLeDiff, Nat.zero_add, reduceCtorEq, Bool.false_eq_true, Option.toList_some, Option.toList_none, List.cons_append, List.nil_append, not_true_eq_false, not_false_eq_true, Nat.sub_zero, dsX4_init, xcX4_init]
  obtain ⟨O', g1, g2⟩ := inSr_S (O := O) (kd := kd) (h := fun i => if i < mN (inSr M s y1 y2 y3 y4 y5 kd) y1 then -1 else aI (inSr M s y1 y2 y3 y4 y5 kd) y1 i) hb ho f1 f2 f3 f4 f5 n21 n31 n32 n41 n42 n43 n51 n52 n53 n54 (fun i hi => by rw [if_pos (by rw [hN]; exact hi)])
  exact hq O' _ g1 g2
