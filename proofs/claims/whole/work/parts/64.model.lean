/-! the reference: its arrays; what it reads -/
def isA (f : Nat) : Bool := (Nat.ble 225 f && Nat.ble f 246) || f == 251 || f == 252
def akd (f : Nat) : Nat := if f == 234 || f == 235 || (Nat.ble 240 f && Nat.ble f 244) || f == 252 then 10 else 9
def aln (f : Nat) : Nat := if f == 226 then 64 else if f == 231 || f == 232 || f == 234 then 2560 else if f == 233 || f == 235 then 400 else if f == 236 then 655360 else if Nat.ble 237 f && Nat.ble f 244 then 560 else if f == 245 then 256 else if f == 246 then 16 else if f == 251 || f == 252 then 350 else 8
def MS (A : Nat → Nat) (U : HM) (m : Nat) : Prop := mK U m = 8 ∧ ∀ f, isA f = true → mR U f m = some (A f) ∧ mK U (A f) = akd f ∧ mN U (A f) = aln f
def GO (O : GH) (A : Nat → Nat) (m : Nat) : Prop := O m = (m, m) ∧ ∀ f, isA f = true → O (A f) = (m, f)
theorem GO.ne {O : GH} {A : Nat → Nat} {m f g : Nat} (h : GO O A m) (hf : isA f = true) (hg : isA g = true) (hfg : f ≠ g) : ¬ A f = A g := fun e => hfg (by
  have h1 := h.2 f hf
  rw [e, h.2 g hg] at h1
  exact (congrArg Prod.snd h1).symm)
theorem MS.of {A : Nat → Nat} {M U : HM} {m : Nat} (h : MS A M m) (h1 : mK U = mK M) (h2 : mN U = mN M) (h3 : mR U = mR M) : MS A U m := by
  unfold MS; rw [h1, h2, h3]; exact h
theorem mss : (∀ A M f a v m, MS A (sI M f a v) m = MS A M m) ∧ (∀ A M a i v m, MS A (tI M a i v) m = MS A M m) ∧ (∀ A M a i v m, MS A (tL M a i v) m = MS A M m) := by
  refine ⟨fun A M f a v m => ?_, fun A M a i v m => ?_, fun A M a i v m => ?_⟩ <;> (unfold MS; simp only [hmK, hmN, hmR])
def wfb (bk : List BLK) : Prop := ∀ x, x ∈ bk → x.1 ≠ [] ∧ x.1.length ≤ 16 ∧ ∀ k, 226 ≤ k → x.2 k = 0
def mH (A : Nat → Nat) (U : HM) (s : Nat) (kd : Int32) (lab : Nat → Int32) : Prop := aI U (A 225) s = kd ∧ ∀ k, k < 8 → aI U (A 226) (8 * s + k) = lab k + 1
def mP (A : Nat → Nat) (U : HM) (s : Nat) (l : List PT) : Prop := aI U (A 227) s = nI l.length ∧ l.length ≤ 300 ∧ rdf (fun i => (aI U (A 231) i, aL U (A 234) i)) (320 * s) l.length = l
def mB (A : Nat → Nat) (U : HM) (s : Nat) (bk : List BLK) : Prop := aI U (A 228) s = nI bk.length ∧ bk.length ≤ 300 ∧ (∀ b x, bk[b]? = some x → aI U (A 232) (320 * s + b) = nI x.1.length ∧ ∀ k, k < 256 → aI U (A 236) (256 * (320 * s + b) + k) = x.2 k) ∧ wfb bk
def mT (A : Nat → Nat) (U : HM) (s : Nat) (l : List PT) : Prop := aI U (A 229) s = nI l.length ∧ l.length ≤ 40 ∧ rdf (fun i => (aI U (A 233) i, aL U (A 235) i)) (50 * s) l.length = l
def spv (A : Nat → Nat) (U : HM) (i : Nat) : SPN := (aI U (A 237) i, aI U (A 238) i, aI U (A 239) i, aL U (A 240) i, aL U (A 241) i, aL U (A 242) i, aL U (A 243) i, aL U (A 244) i)
def mSp (A : Nat → Nat) (U : HM) (s : Nat) (l : List SPN) : Prop := aI U (A 230) s = nI l.length ∧ l.length ≤ 60 ∧ rdf (spv A U) (70 * s) l.length = l
theorem nI_mul (a b : Nat) : nI a * nI b = nI (a * b) := (Int32.ofNat_mul a b).symm
theorem spt (s k : Nat) : (320 : Int32) * nI s + nI k = nI (320 * s + k) := by rw [show (320 : Int32) = nI 320 from rfl, nI_mul, nI_add]
theorem mst (s b k : Nat) : (256 : Int32) * ((320 : Int32) * nI s + nI b) + nI k = nI (256 * (320 * s + b) + k) := by rw [spt, show (256 : Int32) = nI 256 from rfl, nI_mul, nI_add]
theorem l8t (s k : Nat) : (8 : Int32) * nI s + nI k = nI (8 * s + k) := by rw [show (8 : Int32) = nI 8 from rfl, nI_mul, nI_add]
theorem l50 (s k : Nat) : (50 : Int32) * nI s + nI k = nI (50 * s + k) := by rw [show (50 : Int32) = nI 50 from rfl, nI_mul, nI_add]
theorem l70 (s k : Nat) : (70 : Int32) * nI s + nI k = nI (70 * s + k) := by rw [show (70 : Int32) = nI 70 from rfl, nI_mul, nI_add]
theorem ile : (∀ x : Int32, (7 < x) = ¬ (x < 8)) ∧ (∀ x : Int32, (15 < x) = ¬ (x < 16)) ∧ (∀ x : Int32, (3 < x) = ¬ (x < 4)) := by
  refine ⟨fun x => ?_, fun x => ?_, fun x => ?_⟩ <;> (apply propext; rw [Int32.lt_iff_toInt_lt, Int32.lt_iff_toInt_lt]; first | (rw [show (7 : Int32).toInt = 7 from rfl, show (8 : Int32).toInt = 8 from rfl]; omega) | (rw [show (15 : Int32).toInt = 15 from rfl, show (16 : Int32).toInt = 16 from rfl]; omega) | (rw [show (3 : Int32).toInt = 3 from rfl, show (4 : Int32).toInt = 4 from rfl]; omega))
def csX7_isSeries : CS := cs_0
theorem csoX7_isSeries : ∀ op x na cl sp, csX7_isSeries op x = some (na, cl, sp) → CallOK 7 0 0 op x na cl sp := cs_0_ok
def sp_X7_isSeries : SP := fun as M k n Q => match as with
  | [.ref m, .int i] => mK M m = 8 ∧ Q (some (.int (if ¬ i < 0 ∧ i < mI M 224 m then 1 else 0))) M k n
  | _ => False
theorem okX7_isSeries : OkX7_isSeries sp_X7_isSeries := by
  refine inX7_isSeries csoX7_isSeries ?_
  intro as M k n Q hsp
  unfold sp_X7_isSeries at hsp
  split at hsp
  rotate_left
  · exact hsp.elim
  rename_i m i
  obtain ⟨h0, hq⟩ := hsp
  refine ⟨0, 0, Nat.zero_le _, Nat.zero_le _, Nat.le_of_ble_eq_true rfl, fun G hG => ?_⟩
  refine e_g2 hG [] 40 ?_
  simp only [e_wp_s, Option.getD_some, Option.isSome_some, Option.isSome_none, xis0, xis1, xis2, xis3, xis4, e_ks, lk_k, lk_c, List.lookup_nil, gt_c, vi_i, k1_n, k1_c, k2_n, k2_c, ar_n, ar_c, pk_n, pk_c, rm_0, rm_1, rm_2, rm_3, rm_4, rm_5, rc_9, rcs, fvs, rf_s, rf_n, isI_i, isL_l, isR_r, isR_n, isR_q, ct_i, ct_l, ct_r, ct_n, ct_q, tFs, tCs, tKs, tJs, tSs, e_nf, lgs, ↓reduceIte, true_and, and_true, false_and, and_false, or_true, true_or, false_or, or_false, Nat.reduceAdd, Nat.reduceEqDiff, Nat.reduceDiv, Nat.reduceLT, Nat.reduceLeDiff, Nat.zero_add, reduceCtorEq, Bool.false_eq_true, Option.toList_some, Option.toList_none, List.cons_append, List.nil_append, not_true_eq_false, not_false_eq_true, Nat.sub_zero, dsX7_isSeries, jsX7_isSeries, h0]
  by_cases c1 : i < 0 <;> by_cases c2 : i < mI M 224 m <;> simpa [c1, c2] using hq
def csX7_spot : CS := cs_0
theorem csoX7_spot : ∀ op x na cl sp, csX7_spot op x = some (na, cl, sp) → CallOK 7 0 0 op x na cl sp := cs_0_ok
def sp_X7_spot : SP := fun as M k n Q => match as with
  | [.ref _, .int i, .int j] => Q (some (.int (320 * i + j))) M k n
  | _ => False
theorem okX7_spot : OkX7_spot sp_X7_spot := by
  refine inX7_spot csoX7_spot ?_
  intro as M k n Q hsp
  unfold sp_X7_spot at hsp
  split at hsp
  rotate_left
  · exact hsp.elim
  rename_i m i j
  refine ⟨0, 0, Nat.zero_le _, Nat.zero_le _, Nat.le_of_ble_eq_true rfl, fun G hG => ?_⟩
  refine e_g2 hG [] 40 ?_
  simp only [e_wp_s, Option.getD_some, Option.isSome_some, Option.isSome_none, xis0, xis1, xis2, xis3, xis4, e_ks, lk_k, lk_c, List.lookup_nil, gt_c, vi_i, k1_n, k1_c, k2_n, k2_c, ar_n, ar_c, pk_n, pk_c, rm_0, rm_1, rm_2, rm_3, rm_4, rm_5, rc_9, rcs, fvs, rf_s, rf_n, isI_i, isL_l, isR_r, isR_n, isR_q, ct_i, ct_l, ct_r, ct_n, ct_q, tFs, tCs, tKs, tJs, tSs, e_nf, lgs, ↓reduceIte, true_and, and_true, false_and, and_false, or_true, true_or, false_or, or_false, Nat.reduceAdd, Nat.reduceEqDiff, Nat.reduceDiv, Nat.reduceLT, Nat.reduceLeDiff, Nat.zero_add, reduceCtorEq, Bool.false_eq_true, Option.toList_some, Option.toList_none, List.cons_append, List.nil_append, not_true_eq_false, not_false_eq_true, Nat.sub_zero, dsX7_spot]
  exact hsp
def csX7_mask : CS := (cs_c 0 111 3 7 sp_X7_spot cs_0)
theorem csoX7_mask : ∀ op x na cl sp, csX7_mask op x = some (na, cl, sp) → CallOK 7 1 22 op x na cl sp := (cs_c_ok (caX7_mask_111 okX7_spot) cs_0_ok)
theorem xcX7_mask : (∀ (Q : QT) (G : GT) (pc : Nat) (L : LV) (a0 a1 a2 : Value) (r : List Value) (M : HM) (k n : Nat), ex_i 7 4 1 false csX7_mask Q G (.invokevirtual 111) pc L (a2 :: a1 :: a0 :: r) M k n = (e_rm r ∧ e_rc M 7 [a0, a1, a2] ∧ sp_X7_spot [a0, a1, a2] M k n (fun v M' k' n' => G (pc + 3) L (v.toList ++ r) M' k' n'))) := (fun _ _ _ _ _ _ _ _ _ _ _ => xv0_3 rfl)
def sp_X7_mask : SP := fun as M k n Q => match as with
  | [.ref m, .int i, .int j, .int p] => mK M m = 8 ∧ Q (some (.int (256 * (320 * i + j) + p))) M k n
  | _ => False
theorem okX7_mask : OkX7_mask sp_X7_mask := by
  refine inX7_mask csoX7_mask ?_
  intro as M k n Q hsp
  unfold sp_X7_mask at hsp
  split at hsp
  rotate_left
  · exact hsp.elim
  rename_i m i j p
  obtain ⟨h0, hq⟩ := hsp
  refine ⟨0, 0, Nat.zero_le _, Nat.zero_le _, Nat.le_of_ble_eq_true rfl, fun G hG => ?_⟩
  refine e_g2 hG [] 40 ?_
  simp only [e_wp_s, Option.getD_some, Option.isSome_some, Option.isSome_none, xis0, xis1, xis2, xis3, xis4, e_ks, lk_k, lk_c, List.lookup_nil, gt_c, vi_i, k1_n, k1_c, k2_n, k2_c, ar_n, ar_c, pk_n, pk_c, rm_0, rm_1, rm_2, rm_3, rm_4, rm_5, rc_9, rcs, fvs, rf_s, rf_n, isI_i, isL_l, isR_r, isR_n, isR_q, ct_i, ct_l, ct_r, ct_n, ct_q, tFs, tCs, tKs, tJs, tSs, e_nf, lgs, ↓reduceIte, true_and, and_true, false_and, and_false, or_true, true_or, false_or, or_false, Nat.reduceAdd, Nat.reduceEqDiff, Nat.reduceDiv, Nat.reduceLT, Nat.reduceLeDiff, Nat.zero_add, reduceCtorEq, Bool.false_eq_true, Option.toList_some, Option.toList_none, List.cons_append, List.nil_append, not_true_eq_false, not_false_eq_true, Nat.sub_zero, dsX7_mask, xcX7_mask, h0, ↓sp_X7_spot]
  exact hq
def csX7_isWindow : CS := cs_0
theorem csoX7_isWindow : ∀ op x na cl sp, csX7_isWindow op x = some (na, cl, sp) → CallOK 7 0 0 op x na cl sp := cs_0_ok
def sp_X7_isWindow : SP := fun as M k n Q => match as with
  | [.ref _, .int x, .int y] => Q (some (.int (if ¬ x < 0 ∧ x < y then 1 else 0))) M k n
  | _ => False
theorem okX7_isWindow : OkX7_isWindow sp_X7_isWindow := by
  refine inX7_isWindow csoX7_isWindow ?_
  intro as M k n Q hsp
  unfold sp_X7_isWindow at hsp
  split at hsp
  rotate_left
  · exact hsp.elim
  rename_i m x y
  refine ⟨0, 0, Nat.zero_le _, Nat.zero_le _, Nat.le_of_ble_eq_true rfl, fun G hG => ?_⟩
  refine e_g2 hG [] 60 ?_
  simp only [e_wp_s, Option.getD_some, Option.isSome_some, Option.isSome_none, xis0, xis1, xis2, xis3, xis4, e_ks, lk_k, lk_c, List.lookup_nil, gt_c, vi_i, k1_n, k1_c, k2_n, k2_c, ar_n, ar_c, pk_n, pk_c, rm_0, rm_1, rm_2, rm_3, rm_4, rm_5, rc_9, rcs, fvs, rf_s, rf_n, isI_i, isL_l, isR_r, isR_n, isR_q, ct_i, ct_l, ct_r, ct_n, ct_q, tFs, tCs, tKs, tJs, tSs, e_nf, lgs, ↓reduceIte, true_and, and_true, false_and, and_false, or_true, true_or, false_or, or_false, Nat.reduceAdd, Nat.reduceEqDiff, Nat.reduceDiv, Nat.reduceLT, Nat.reduceLeDiff, Nat.zero_add, reduceCtorEq, Bool.false_eq_true, Option.toList_some, Option.toList_none, List.cons_append, List.nil_append, not_true_eq_false, not_false_eq_true, Nat.sub_zero, dsX7_isWindow, jsX7_isWindow]
  by_cases c1 : x < 0 <;> by_cases c2 : x < y <;> simpa [c1, c2] using hsp
def csX7_bytes : CS := cs_0
theorem csoX7_bytes : ∀ op x na cl sp, csX7_bytes op x = some (na, cl, sp) → CallOK 7 0 0 op x na cl sp := cs_0_ok
def sp_X7_bytes : SP := fun as M k n Q => match as with
  | [.ref m] => mK M m = 8 ∧ Q (some (.int ((mI M 247 m + 7) / 8))) M k n
  | _ => False
theorem okX7_bytes : OkX7_bytes sp_X7_bytes := by
  refine inX7_bytes csoX7_bytes ?_
  intro as M k n Q hsp
  unfold sp_X7_bytes at hsp
  split at hsp
  rotate_left
  · exact hsp.elim
  rename_i m
  obtain ⟨h0, hq⟩ := hsp
  refine ⟨0, 0, Nat.zero_le _, Nat.zero_le _, Nat.le_of_ble_eq_true rfl, fun G hG => ?_⟩
  refine e_g2 hG [] 60 ?_
  simp only [e_wp_s, Option.getD_some, Option.isSome_some, Option.isSome_none, xis0, xis1, xis2, xis3, xis4, e_ks, lk_k, lk_c, List.lookup_nil, gt_c, vi_i, k1_n, k1_c, k2_n, k2_c, ar_n, ar_c, pk_n, pk_c, rm_0, rm_1, rm_2, rm_3, rm_4, rm_5, rc_9, rcs, fvs, rf_s, rf_n, isI_i, isL_l, isR_r, isR_n, isR_q, ct_i, ct_l, ct_r, ct_n, ct_q, tFs, tCs, tKs, tJs, tSs, e_nf, lgs, ↓reduceIte, true_and, and_true, false_and, and_false, or_true, true_or, false_or, or_false, Nat.reduceAdd, Nat.reduceEqDiff, Nat.reduceDiv, Nat.reduceLT, Nat.reduceLeDiff, Nat.zero_add, reduceCtorEq, Bool.false_eq_true, Option.toList_some, Option.toList_none, List.cons_append, List.nil_append, not_true_eq_false, not_false_eq_true, Nat.sub_zero, dsX7_bytes, h0]
  exact ⟨by decide, hq⟩
def csX7_clear : CS := cs_0
theorem csoX7_clear : ∀ op x na cl sp, csX7_clear op x = some (na, cl, sp) → CallOK 7 0 0 op x na cl sp := cs_0_ok
def clrM (M : HM) (m : Nat) : HM := sI (sI (sI M 248 m 0) 249 m 0) 250 m 0
def sp_X7_clear : SP := fun as M k n Q => match as with
  | [.ref m] => mK M m = 8 ∧ Q none (clrM M m) k n
  | _ => False
theorem okX7_clear : OkX7_clear sp_X7_clear := by
  refine inX7_clear csoX7_clear ?_
  intro as M k n Q hsp
  unfold sp_X7_clear at hsp
  split at hsp
  rotate_left
  · exact hsp.elim
  rename_i m
  obtain ⟨h0, hq⟩ := hsp
  refine ⟨0, 0, Nat.zero_le _, Nat.zero_le _, Nat.le_of_ble_eq_true rfl, fun G hG => ?_⟩
  refine e_g2 hG [] 60 ?_
  simp only [e_wp_s, Option.getD_some, Option.isSome_some, Option.isSome_none, xis0, xis1, xis2, xis3, xis4, e_ks, lk_k, lk_c, List.lookup_nil, gt_c, vi_i, k1_n, k1_c, k2_n, k2_c, ar_n, ar_c, pk_n, pk_c, rm_0, rm_1, rm_2, rm_3, rm_4, rm_5, rc_9, rcs, fvs, rf_s, rf_n, isI_i, isL_l, isR_r, isR_n, isR_q, ct_i, ct_l, ct_r, ct_n, ct_q, tFs, tCs, tKs, tJs, tSs, e_nf, lgs, ↓reduceIte, true_and, and_true, false_and, and_false, or_true, true_or, false_or, or_false, Nat.reduceAdd, Nat.reduceEqDiff, Nat.reduceDiv, Nat.reduceLT, Nat.reduceLeDiff, Nat.zero_add, reduceCtorEq, Bool.false_eq_true, Option.toList_some, Option.toList_none, List.cons_append, List.nil_append, not_true_eq_false, not_false_eq_true, Nat.sub_zero, dsX7_clear, h0, hmK, hmN, hmI, hmL, hmR, haI, haL, haR]
  exact hq
def csX7_scan : CS := cs_0
theorem csoX7_scan : ∀ op x na cl sp, csX7_scan op x = some (na, cl, sp) → CallOK 7 0 0 op x na cl sp := cs_0_ok
def sp_X7_scan : SP := fun as M k n Q => match as with
  | [.ref m, .int w] => mK M m = 8 ∧ Q (some (.int (if w = 0 then mI M 248 m else if w = 1 then mI M 249 m else if w = 2 then mI M 250 m else -1))) M k n
  | _ => False
theorem okX7_scan : OkX7_scan sp_X7_scan := by
  refine inX7_scan csoX7_scan ?_
  intro as M k n Q hsp
  unfold sp_X7_scan at hsp
  split at hsp
  rotate_left
  · exact hsp.elim
  rename_i m w
  obtain ⟨h0, hq⟩ := hsp
  refine ⟨0, 0, Nat.zero_le _, Nat.zero_le _, Nat.le_of_ble_eq_true rfl, fun G hG => ?_⟩
  refine e_g2 hG [] 60 ?_
  simp only [e_wp_s, Option.getD_some, Option.isSome_some, Option.isSome_none, xis0, xis1, xis2, xis3, xis4, e_ks, lk_k, lk_c, List.lookup_nil, gt_c, vi_i, k1_n, k1_c, k2_n, k2_c, ar_n, ar_c, pk_n, pk_c, rm_0, rm_1, rm_2, rm_3, rm_4, rm_5, rc_9, rcs, fvs, rf_s, rf_n, isI_i, isL_l, isR_r, isR_n, isR_q, ct_i, ct_l, ct_r, ct_n, ct_q, tFs, tCs, tKs, tJs, tSs, e_nf, lgs, ↓reduceIte, true_and, and_true, false_and, and_false, or_true, true_or, false_or, or_false, Nat.reduceAdd, Nat.reduceEqDiff, Nat.reduceDiv, Nat.reduceLT, Nat.reduceLeDiff, Nat.zero_add, reduceCtorEq, Bool.false_eq_true, Option.toList_some, Option.toList_none, List.cons_append, List.nil_append, not_true_eq_false, not_false_eq_true, Nat.sub_zero, dsX7_scan, jsX7_scan, h0]
  by_cases c0 : w = 0
  · subst c0; simpa using hq
  by_cases c1 : w = 1
  · subst c1; simpa using hq
  by_cases c2 : w = 2
  · subst c2; simpa using hq
  simpa [c0, c1, c2] using hq
def csX7_better : CS := cs_0
theorem csoX7_better : ∀ op x na cl sp, csX7_better op x = some (na, cl, sp) → CallOK 7 0 0 op x na cl sp := cs_0_ok
def sp_X7_better : SP := fun as M k n Q => match as with
  | [.ref _, .long x, .long y, .int ms] => Q (some (.long (if x = NOv ∨ (if ms = 0 then y < x else x < y) then y else x))) M k n
  | _ => False
theorem okX7_better : OkX7_better sp_X7_better := by
  refine inX7_better csoX7_better ?_
  intro as M k n Q hsp
  unfold sp_X7_better at hsp
  split at hsp
  rotate_left
  · exact hsp.elim
  rename_i m x y ms
  refine ⟨0, 0, Nat.zero_le _, Nat.zero_le _, Nat.le_of_ble_eq_true rfl, fun G hG => ?_⟩
  refine e_g2 hG [] 60 ?_
  simp only [e_wp_s, Option.getD_some, Option.isSome_some, Option.isSome_none, xis0, xis1, xis2, xis3, xis4, e_ks, lk_k, lk_c, List.lookup_nil, gt_c, vi_i, k1_n, k1_c, k2_n, k2_c, ar_n, ar_c, pk_n, pk_c, rm_0, rm_1, rm_2, rm_3, rm_4, rm_5, rc_9, rcs, fvs, rf_s, rf_n, isI_i, isL_l, isR_r, isR_n, isR_q, ct_i, ct_l, ct_r, ct_n, ct_q, tFs, tCs, tKs, tJs, tSs, e_nf, lgs, ↓reduceIte, true_and, and_true, false_and, and_false, or_true, true_or, false_or, or_false, Nat.reduceAdd, Nat.reduceEqDiff, Nat.reduceDiv, Nat.reduceLT, Nat.reduceLeDiff, Nat.zero_add, reduceCtorEq, Bool.false_eq_true, Option.toList_some, Option.toList_none, List.cons_append, List.nil_append, not_true_eq_false, not_false_eq_true, Nat.sub_zero, dsX7_better, jsX7_better]
  by_cases c1 : x = NOv
  · have c1' : x = -9223372036854775808 := c1
    simp only [c1, true_or, if_true] at hsp
    simp only [c1', if_true]
    exact hsp
  · have c1' : ¬ x = -9223372036854775808 := c1
    by_cases c2 : ms = 0
    · simp only [c1, c2, false_or, if_true] at hsp
      by_cases c3 : y < x <;> simp only [c3, if_true, if_false] at hsp <;> simp only [c1', c2, c3, if_true, if_false] <;> exact hsp
    · simp only [c1, c2, false_or, if_false] at hsp
      by_cases c3 : x < y <;> simp only [c3, if_true, if_false] at hsp <;> simp only [c1', c2, c3, if_true, if_false] <;> exact hsp
def csX7_isIn : CS := cs_0
theorem csoX7_isIn : ∀ op x na cl sp, csX7_isIn op x = some (na, cl, sp) → CallOK 7 0 0 op x na cl sp := cs_0_ok
def sp_X7_isIn : SP := fun as M k n Q => match as with
  | [.ref m, .int i, .int a, .int b] => ∃ A j, MS A M m ∧ i = nI j ∧ j < 560 ∧ Q (some (.int (if inSp a b (spv A M j) then 1 else 0))) M k n
  | _ => False
theorem okX7_isIn : OkX7_isIn sp_X7_isIn := by
  refine inX7_isIn csoX7_isIn ?_
  intro as M k n Q hsp
  unfold sp_X7_isIn at hsp
  split at hsp
  rotate_left
  · exact hsp.elim
  rename_i m i a b
  obtain ⟨A, j, hM, rfl, hj, hq⟩ := hsp
  have h0 := hM.1
  obtain ⟨r237, k237, l237⟩ : mR M 237 m = some (A 237) ∧ mK M (A 237) = 9 ∧ mN M (A 237) = 560 := hM.2 237 rfl
  obtain ⟨r238, k238, l238⟩ : mR M 238 m = some (A 238) ∧ mK M (A 238) = 9 ∧ mN M (A 238) = 560 := hM.2 238 rfl
  have e1 : (nI j).toNatClampNeg = j := nI_clamp (by omega)
  have e2 : vp_in (nI j) 560 := vp_in_nI hj (by decide)
  refine ⟨0, 0, Nat.zero_le _, Nat.zero_le _, Nat.le_of_ble_eq_true rfl, fun G hG => ?_⟩
  refine e_g2 hG [] 60 ?_
  simp only [e_wp_s, Option.getD_some, Option.isSome_some, Option.isSome_none, xis0, xis1, xis2, xis3, xis4, e_ks, lk_k, lk_c, List.lookup_nil, gt_c, vi_i, k1_n, k1_c, k2_n, k2_c, ar_n, ar_c, pk_n, pk_c, rm_0, rm_1, rm_2, rm_3, rm_4, rm_5, rc_9, rcs, fvs, rf_s, rf_n, isI_i, isL_l, isR_r, isR_n, isR_q, ct_i, ct_l, ct_r, ct_n, ct_q, tFs, tCs, tKs, tJs, tSs, e_nf, lgs, ↓reduceIte, true_and, and_true, false_and, and_false, or_true, true_or, false_or, or_false, Nat.reduceAdd, Nat.reduceEqDiff, Nat.reduceDiv, Nat.reduceLT, Nat.reduceLeDiff, Nat.zero_add, reduceCtorEq, Bool.false_eq_true, Option.toList_some, Option.toList_none, List.cons_append, List.nil_append, not_true_eq_false, not_false_eq_true, Nat.sub_zero, dsX7_isIn, jsX7_isIn, h0, r237, k237, l237, r238, k238, l238, e1, e2]
  unfold inSp spv at hq
  simp only at hq
  by_cases c1 : aI M (A 237) j < a <;> by_cases c2 : b < aI M (A 238) j <;> simp [c1, c2] at hq ⊢ <;> exact hq
def csX7_start : CS := (cs_c 0 111 3 7 sp_X7_spot cs_0)
theorem csoX7_start : ∀ op x na cl sp, csX7_start op x = some (na, cl, sp) → CallOK 7 1 22 op x na cl sp := (cs_c_ok (caX7_start_111 okX7_spot) cs_0_ok)
theorem xcX7_start : (∀ (Q : QT) (G : GT) (pc : Nat) (L : LV) (a0 a1 a2 : Value) (r : List Value) (M : HM) (k n : Nat), ex_i 7 5 1 false csX7_start Q G (.invokevirtual 111) pc L (a2 :: a1 :: a0 :: r) M k n = (e_rm r ∧ e_rc M 7 [a0, a1, a2] ∧ sp_X7_spot [a0, a1, a2] M k n (fun v M' k' n' => G (pc + 3) L (v.toList ++ r) M' k' n'))) := (fun _ _ _ _ _ _ _ _ _ _ _ => xv0_3 rfl)
def sp_X7_start : SP := fun as M k n Q => match as with
  | [.ref m, .int i, .int j] => ∃ A s b bk, MS A M m ∧ s < 8 ∧ mB A M s bk ∧ i = nI s ∧ j = nI b ∧ b ≤ bk.length ∧ Q (some (.int (nI (320 * s + (mpts (bk.take b)).length)))) M k n
  | _ => False
theorem okX7_start : OkX7_start sp_X7_start := by
  refine inX7_start csoX7_start ?_
  intro as M k n Q hsp
  unfold sp_X7_start at hsp
  split at hsp
  rotate_left
  · exact hsp.elim
  rename_i m i j
  obtain ⟨A, s, b, bk, hM, hs, hB, rfl, rfl, hb, hq⟩ := hsp
  have h0 := hM.1
  obtain ⟨r232, k232, l232⟩ : mR M 232 m = some (A 232) ∧ mK M (A 232) = 9 ∧ mN M (A 232) = 2560 := hM.2 232 rfl
  have hl := hB.2.1
  refine ⟨0, 0, Nat.zero_le _, Nat.zero_le _, Nat.le_of_ble_eq_true rfl, fun G hG => ?_⟩
  have loop : ∀ d k, k + d = b → G 5 [(0, .ref m), (1, .int (nI s)), (2, .int (nI b)), (3, .int (nI (mpts (bk.take k)).length)), (4, .int (nI k))] [] M 0 0 := by
    intro d
    induction d with
    | zero =>
      intro k hk
      have e1 : ¬ nI k < nI b := nI_nlt (by omega) (by omega)
      refine e_g2 hG [] 60 ?_
      simp only [e_wp_s, Option.getD_some, Option.isSome_some, Option.isSome_none, xis0, xis1, xis2, xis3, xis4, e_ks, lk_k, lk_c, List.lookup_nil, gt_c, vi_i, k1_n, k1_c, k2_n, k2_c, ar_n, ar_c, pk_n, pk_c, rm_0, rm_1, rm_2, rm_3, rm_4, rm_5, rc_9, rcs, fvs, rf_s, rf_n, isI_i, isL_l, isR_r, isR_n, isR_q, ct_i, ct_l, ct_r, ct_n, ct_q, tFs, tCs, tKs, tJs, tSs, e_nf, lgs, ↓reduceIte, true_and, and_true, false_and, and_false, or_true, true_or, false_or, or_false, Nat.reduceAdd, Nat.reduceEqDiff, Nat.reduceDiv, Nat.reduceLT, Nat.reduceLeDiff, Nat.zero_add, reduceCtorEq, Bool.false_eq_true, Option.toList_some, Option.toList_none, List.cons_append, List.nil_append, not_true_eq_false, not_false_eq_true, Nat.sub_zero, dsX7_start, jsX7_start, xcX7_start, h0, e1, ↓sp_X7_spot, spt]
      rw [show k = b by omega]
      exact hq
    | succ d ih =>
      intro k hk
      have e1 : nI k < nI b := nI_lt (by omega) (by omega)
      obtain ⟨x, hx⟩ : ∃ x, bk[k]? = some x := ⟨_, List.getElem?_eq_getElem (by omega)⟩
      have e2 : (nI (320 * s + k)).toNatClampNeg = 320 * s + k := nI_clamp (by omega)
      have e3 : vp_in (nI (320 * s + k)) 2560 := vp_in_nI (by omega) (by decide)
      have e4 := (hB.2.2.1 k x hx).1
      have ih2 := ih (k + 1) (by omega)
      rw [take_1 hx, mpts_app, mpts_1, List.length_append] at ih2
      refine e_g2 hG [(5, [0, 1, 2, 3, 4])] 60 ?_
      simp only [e_wp_s, Option.getD_some, Option.isSome_some, Option.isSome_none, xis0, xis1, xis2, xis3, xis4, e_ks, lk_k, lk_c, List.lookup_nil, gt_c, vi_i, k1_n, k1_c, k2_n, k2_c, ar_n, ar_c, pk_n, pk_c, rm_0, rm_1, rm_2, rm_3, rm_4, rm_5, rc_9, rcs, fvs, rf_s, rf_n, isI_i, isL_l, isR_r, isR_n, isR_q, ct_i, ct_l, ct_r, ct_n, ct_q, tFs, tCs, tKs, tJs, tSs, e_nf, lgs, ↓reduceIte, true_and, and_true, false_and, and_false, or_true, true_or, false_or, or_false, Nat.reduceAdd, Nat.reduceEqDiff, Nat.reduceDiv, Nat.reduceLT, Nat.reduceLeDiff, Nat.zero_add, reduceCtorEq, Bool.false_eq_true, Option.toList_some, Option.toList_none, List.cons_append, List.nil_append, not_true_eq_false, not_false_eq_true, Nat.sub_zero, dsX7_start, jsX7_start, xcX7_start, h0, r232, k232, l232, e1, e2, e3, e4, ↓sp_X7_spot, spt, nI_add, nI_1]
      exact ih2
  refine e_g2 hG [(5, [0, 1, 2, 3, 4])] 60 ?_
  simp only [e_wp_s, Option.getD_some, Option.isSome_some, Option.isSome_none, xis0, xis1, xis2, xis3, xis4, e_ks, lk_k, lk_c, List.lookup_nil, gt_c, vi_i, k1_n, k1_c, k2_n, k2_c, ar_n, ar_c, pk_n, pk_c, rm_0, rm_1, rm_2, rm_3, rm_4, rm_5, rc_9, rcs, fvs, rf_s, rf_n, isI_i, isL_l, isR_r, isR_n, isR_q, ct_i, ct_l, ct_r, ct_n, ct_q, tFs, tCs, tKs, tJs, tSs, e_nf, lgs, ↓reduceIte, true_and, and_true, false_and, and_false, or_true, true_or, false_or, or_false, Nat.reduceAdd, Nat.reduceEqDiff, Nat.reduceDiv, Nat.reduceLT, Nat.reduceLeDiff, Nat.zero_add, reduceCtorEq, Bool.false_eq_true, Option.toList_some, Option.toList_none, List.cons_append, List.nil_append, not_true_eq_false, not_false_eq_true, Nat.sub_zero, dsX7_start, jsX7_start, xcX7_start]
  exact loop b 0 (by omega)
/-- a block's points among all -/
theorem mpts_at {bk : List BLK} {b : Nat} {x : BLK} (hx : bk[b]? = some x) {k : Nat} (hk : k < x.1.length) : (mpts bk)[(mpts (bk.take b)).length + k]? = x.1[k]? := by
  have hd : bk = bk.take b ++ ([x] ++ bk.drop (b + 1)) := by
    have hi := (List.getElem?_eq_some_iff.mp hx).1
    conv => lhs; rw [← List.take_append_drop b bk, List.drop_eq_getElem_cons hi]
    congr 2
    exact (List.getElem?_eq_some_iff.mp hx).2
  conv => lhs; rw [hd]
  rw [mpts_app, mpts_app, mpts_1, ← hd, List.getElem?_append_right (by omega), show (mpts (bk.take b)).length + k - (mpts (bk.take b)).length = k by omega, List.getElem?_append_left hk]
theorem mP_at {A : Nat → Nat} {M : HM} {s i : Nat} {l : List PT} {q : PT} (h : mP A M s l) (hq : l[i]? = some q) : aI M (A 231) (320 * s + i) = q.1 ∧ aL M (A 234) (320 * s + i) = q.2 ∧ i < l.length ∧ i < 300 := by
  have := rdf_at h.2.2 hq
  have hi := (List.getElem?_eq_some_iff.mp hq).1
  have h3 := h.2.1
  exact ⟨by rw [← ‹_ = q›], by rw [← ‹_ = q›], hi, by omega⟩
theorem last_T {l : List PT} (h : l ≠ []) : ∃ q, l[l.length - 1]? = some q ∧ eT (enc l) = q.1 := by
  rcases nil_snoc l with rfl | ⟨r, q, rfl⟩
  · exact absurd rfl h
  · refine ⟨q, ?_, (enc_T r q).1⟩
    rw [List.length_append]
    simp
theorem first_T {l : List PT} (h : l ≠ []) : ∃ q, l[0]? = some q ∧ fst1 l = q.1 := by
  cases l with
  | nil => exact absurd rfl h
  | cons q r => exact ⟨q, rfl, rfl⟩
def csX7_firstTime : CS := (cs_c 0 115 3 7 sp_X7_start cs_0)
theorem csoX7_firstTime : ∀ op x na cl sp, csX7_firstTime op x = some (na, cl, sp) → CallOK 7 2 46 op x na cl sp := (cs_c_ok (caX7_firstTime_115 okX7_start) cs_0_ok)
theorem xcX7_firstTime : (∀ (Q : QT) (G : GT) (pc : Nat) (L : LV) (a0 a1 a2 : Value) (r : List Value) (M : HM) (k n : Nat), ex_i 7 3 1 false csX7_firstTime Q G (.invokevirtual 115) pc L (a2 :: a1 :: a0 :: r) M k n = (e_rm r ∧ e_rc M 7 [a0, a1, a2] ∧ sp_X7_start [a0, a1, a2] M k n (fun v M' k' n' => G (pc + 3) L (v.toList ++ r) M' k' n'))) := (fun _ _ _ _ _ _ _ _ _ _ _ => xv0_3 rfl)
def sp_X7_firstTime : SP := fun as M k n Q => match as with
  | [.ref m, .int i, .int j] => ∃ A s b bk x, MS A M m ∧ s < 8 ∧ mB A M s bk ∧ mP A M s (mpts bk) ∧ i = nI s ∧ j = nI b ∧ bk[b]? = some x ∧ Q (some (.int (fst1 x.1))) M k n
  | _ => False
theorem okX7_firstTime : OkX7_firstTime sp_X7_firstTime := by
  refine inX7_firstTime csoX7_firstTime ?_
  intro as M k n Q hsp
  unfold sp_X7_firstTime at hsp
  split at hsp
  rotate_left
  · exact hsp.elim
  rename_i m i j
  obtain ⟨A, s, b, bk, x, hM, hs, hB, hP, rfl, rfl, hx, hq⟩ := hsp
  have h0 := hM.1
  obtain ⟨r231, k231, l231⟩ : mR M 231 m = some (A 231) ∧ mK M (A 231) = 9 ∧ mN M (A 231) = 2560 := hM.2 231 rfl
  have hb := (List.getElem?_eq_some_iff.mp hx).1
  have hxn := (hB.2.2.2 x (List.mem_of_getElem? hx)).1
  have hxl : 0 < x.1.length := by
    cases hl : x.1 with
    | nil => exact absurd hl hxn
    | cons _ _ => exact Nat.succ_pos _
  obtain ⟨q, hq1, hq2⟩ := first_T hxn
  have h1 := mpts_at hx (k := 0) hxl
  rw [hq1, Nat.add_zero] at h1
  obtain ⟨w1, w2, w3, w4⟩ := mP_at hP h1
  refine ⟨0, 0, Nat.zero_le _, Nat.zero_le _, Nat.le_of_ble_eq_true rfl, fun G hG => ?_⟩
  refine e_g2 hG [(10, [])] 60 ?_
  simp only [e_wp_s, Option.getD_some, Option.isSome_some, Option.isSome_none, xis0, xis1, xis2, xis3, xis4, e_ks, lk_k, lk_c, List.lookup_nil, gt_c, vi_i, k1_n, k1_c, k2_n, k2_c, ar_n, ar_c, pk_n, pk_c, rm_0, rm_1, rm_2, rm_3, rm_4, rm_5, rc_9, rcs, fvs, rf_s, rf_n, isI_i, isL_l, isR_r, isR_n, isR_q, ct_i, ct_l, ct_r, ct_n, ct_q, tFs, tCs, tKs, tJs, tSs, e_nf, lgs, ↓reduceIte, true_and, and_true, false_and, and_false, or_true, true_or, false_or, or_false, Nat.reduceAdd, Nat.reduceEqDiff, Nat.reduceDiv, Nat.reduceLT, Nat.reduceLeDiff, Nat.zero_add, reduceCtorEq, Bool.false_eq_true, Option.toList_some, Option.toList_none, List.cons_append, List.nil_append, not_true_eq_false, not_false_eq_true, Nat.sub_zero, dsX7_firstTime, xcX7_firstTime, h0, r231, k231, l231]
  refine ⟨A, s, b, bk, hM, hs, hB, rfl, rfl, by omega, ?_⟩
  have e2 : (nI (320 * s + (mpts (bk.take b)).length)).toNatClampNeg = 320 * s + (mpts (bk.take b)).length := nI_clamp (by omega)
  have e3 : vp_in (nI (320 * s + (mpts (bk.take b)).length)) 2560 := vp_in_nI (by omega) (by decide)
  refine e_g2 hG [] 60 ?_
  simp only [e_wp_s, Option.getD_some, Option.isSome_some, Option.isSome_none, xis0, xis1, xis2, xis3, xis4, e_ks, lk_k, lk_c, List.lookup_nil, gt_c, vi_i, k1_n, k1_c, k2_n, k2_c, ar_n, ar_c, pk_n, pk_c, rm_0, rm_1, rm_2, rm_3, rm_4, rm_5, rc_9, rcs, fvs, rf_s, rf_n, isI_i, isL_l, isR_r, isR_n, isR_q, ct_i, ct_l, ct_r, ct_n, ct_q, tFs, tCs, tKs, tJs, tSs, e_nf, lgs, ↓reduceIte, true_and, and_true, false_and, and_false, or_true, true_or, false_or, or_false, Nat.reduceAdd, Nat.reduceEqDiff, Nat.reduceDiv, Nat.reduceLT, Nat.reduceLeDiff, Nat.zero_add, reduceCtorEq, Bool.false_eq_true, Option.toList_some, Option.toList_none, List.cons_append, List.nil_append, not_true_eq_false, not_false_eq_true, Nat.sub_zero, dsX7_firstTime, xcX7_firstTime, r231, k231, l231, e2, e3, w1]
  rw [hq2] at hq
  exact hq
def csX7_lastTime : CS := (cs_c 0 115 3 7 sp_X7_start (cs_c 0 111 3 7 sp_X7_spot cs_0))
theorem csoX7_lastTime : ∀ op x na cl sp, csX7_lastTime op x = some (na, cl, sp) → CallOK 7 2 46 op x na cl sp := (cs_c_ok (caX7_lastTime_115 okX7_start) (cs_c_ok (caX7_lastTime_111 okX7_spot) cs_0_ok))
theorem xcX7_lastTime : (∀ (Q : QT) (G : GT) (pc : Nat) (L : LV) (a0 a1 a2 : Value) (r : List Value) (M : HM) (k n : Nat), ex_i 7 3 1 false csX7_lastTime Q G (.invokevirtual 115) pc L (a2 :: a1 :: a0 :: r) M k n = (e_rm r ∧ e_rc M 7 [a0, a1, a2] ∧ sp_X7_start [a0, a1, a2] M k n (fun v M' k' n' => G (pc + 3) L (v.toList ++ r) M' k' n'))) ∧ (∀ (Q : QT) (G : GT) (pc : Nat) (L : LV) (a0 a1 a2 : Value) (r : List Value) (M : HM) (k n : Nat), ex_i 7 3 1 false csX7_lastTime Q G (.invokevirtual 111) pc L (a2 :: a1 :: a0 :: r) M k n = (e_rm r ∧ e_rc M 7 [a0, a1, a2] ∧ sp_X7_spot [a0, a1, a2] M k n (fun v M' k' n' => G (pc + 3) L (v.toList ++ r) M' k' n'))) := ⟨(fun _ _ _ _ _ _ _ _ _ _ _ => xv0_3 rfl), (fun _ _ _ _ _ _ _ _ _ _ _ => xv0_3 rfl)⟩
def sp_X7_lastTime : SP := fun as M k n Q => match as with
  | [.ref m, .int i, .int j] => ∃ A s b bk x, MS A M m ∧ s < 8 ∧ mB A M s bk ∧ mP A M s (mpts bk) ∧ i = nI s ∧ j = nI b ∧ bk[b]? = some x ∧ Q (some (.int (eT (enc x.1)))) M k n
  | _ => False
theorem okX7_lastTime : OkX7_lastTime sp_X7_lastTime := by
  refine inX7_lastTime csoX7_lastTime ?_
  intro as M k n Q hsp
  unfold sp_X7_lastTime at hsp
  split at hsp
  rotate_left
  · exact hsp.elim
  rename_i m i j
  obtain ⟨A, s, b, bk, x, hM, hs, hB, hP, rfl, rfl, hx, hq⟩ := hsp
  have h0 := hM.1
  obtain ⟨r231, k231, l231⟩ : mR M 231 m = some (A 231) ∧ mK M (A 231) = 9 ∧ mN M (A 231) = 2560 := hM.2 231 rfl
  obtain ⟨r232, k232, l232⟩ : mR M 232 m = some (A 232) ∧ mK M (A 232) = 9 ∧ mN M (A 232) = 2560 := hM.2 232 rfl
  have hb := (List.getElem?_eq_some_iff.mp hx).1
  have hbl := hB.2.1
  have hxn := (hB.2.2.2 x (List.mem_of_getElem? hx)).1
  have hxl : 0 < x.1.length := by
    cases hl : x.1 with
    | nil => exact absurd hl hxn
    | cons _ _ => exact Nat.succ_pos _
  obtain ⟨q, hq1, hq2⟩ := last_T hxn
  have h1 := mpts_at hx (k := x.1.length - 1) (by omega)
  rw [hq1] at h1
  obtain ⟨w1, w2, w3, w4⟩ := mP_at hP h1
  have e4 := (hB.2.2.1 b x hx).1
  have f2 : (nI (320 * s + b)).toNatClampNeg = 320 * s + b := nI_clamp (by omega)
  have f3 : vp_in (nI (320 * s + b)) 2560 := vp_in_nI (by omega) (by decide)
  refine ⟨0, 0, Nat.zero_le _, Nat.zero_le _, Nat.le_of_ble_eq_true rfl, fun G hG => ?_⟩
  refine e_g2 hG [(10, [0, 1, 2])] 60 ?_
  simp only [e_wp_s, Option.getD_some, Option.isSome_some, Option.isSome_none, xis0, xis1, xis2, xis3, xis4, e_ks, lk_k, lk_c, List.lookup_nil, gt_c, vi_i, k1_n, k1_c, k2_n, k2_c, ar_n, ar_c, pk_n, pk_c, rm_0, rm_1, rm_2, rm_3, rm_4, rm_5, rc_9, rcs, fvs, rf_s, rf_n, isI_i, isL_l, isR_r, isR_n, isR_q, ct_i, ct_l, ct_r, ct_n, ct_q, tFs, tCs, tKs, tJs, tSs, e_nf, lgs, ↓reduceIte, true_and, and_true, false_and, and_false, or_true, true_or, false_or, or_false, Nat.reduceAdd, Nat.reduceEqDiff, Nat.reduceDiv, Nat.reduceLT, Nat.reduceLeDiff, Nat.zero_add, reduceCtorEq, Bool.false_eq_true, Option.toList_some, Option.toList_none, List.cons_append, List.nil_append, not_true_eq_false, not_false_eq_true, Nat.sub_zero, dsX7_lastTime, xcX7_lastTime, h0, r231, k231, l231]
  refine ⟨A, s, b, bk, hM, hs, hB, rfl, rfl, by omega, ?_⟩
  have e5 : nI (320 * s + (mpts (bk.take b)).length + x.1.length) - 1 = nI (320 * s + ((mpts (bk.take b)).length + (x.1.length - 1))) := by
    have := nI_pred (320 * s + ((mpts (bk.take b)).length + (x.1.length - 1)))
    rw [show 320 * s + ((mpts (bk.take b)).length + (x.1.length - 1)) + 1 = 320 * s + (mpts (bk.take b)).length + x.1.length by omega] at this
    exact this
  have e2 : (nI (320 * s + ((mpts (bk.take b)).length + (x.1.length - 1)))).toNatClampNeg = 320 * s + ((mpts (bk.take b)).length + (x.1.length - 1)) := nI_clamp (by omega)
  have e3 : vp_in (nI (320 * s + ((mpts (bk.take b)).length + (x.1.length - 1)))) 2560 := vp_in_nI (by omega) (by decide)
  refine e_g2 hG [] 60 ?_
  simp only [e_wp_s, Option.getD_some, Option.isSome_some, Option.isSome_none, xis0, xis1, xis2, xis3, xis4, e_ks, lk_k, lk_c, List.lookup_nil, gt_c, vi_i, k1_n, k1_c, k2_n, k2_c, ar_n, ar_c, pk_n, pk_c, rm_0, rm_1, rm_2, rm_3, rm_4, rm_5, rc_9, rcs, fvs, rf_s, rf_n, isI_i, isL_l, isR_r, isR_n, isR_q, ct_i, ct_l, ct_r, ct_n, ct_q, tFs, tCs, tKs, tJs, tSs, e_nf, lgs, ↓reduceIte, true_and, and_true, false_and, and_false, or_true, true_or, false_or, or_false, Nat.reduceAdd, Nat.reduceEqDiff, Nat.reduceDiv, Nat.reduceLT, Nat.reduceLeDiff, Nat.zero_add, reduceCtorEq, Bool.false_eq_true, Option.toList_some, Option.toList_none, List.cons_append, List.nil_append, not_true_eq_false, not_false_eq_true, Nat.sub_zero, dsX7_lastTime, xcX7_lastTime, h0, r231, k231, l231, r232, k232, l232, f2, f3, e4, e2, e3, e5, w1, ↓sp_X7_spot, spt, nI_add]
  rw [hq2] at hq
  exact hq
theorem torn_f {x : BLK} (h : ∀ k, 226 ≤ k → x.2 k = 0) : tornB x = false ↔ ∀ k, k < 256 → x.2 k = 0 := by
  unfold tornB
  rw [decide_eq_false_iff_not, Decidable.not_not]
  constructor
  · intro h0 k hk
    by_cases c : k < 226
    · exact tcnt_eq0 x.2 226 h0 k c
    · exact h k (by omega)
  · intro h0
    have key : ∀ n, n ≤ 226 → tcnt x.2 n = 0 := by
      intro n
      induction n with
      | zero => intro _; rfl
      | succ n ih => intro hn; rw [tcnt, ih (by omega), h0 n (by omega)]; rfl
    exact key 226 (Nat.le_refl _)
def csX7_isTorn : CS := (cs_c 0 118 4 7 sp_X7_mask cs_0)
theorem csoX7_isTorn : ∀ op x na cl sp, csX7_isTorn op x = some (na, cl, sp) → CallOK 7 2 45 op x na cl sp := (cs_c_ok (caX7_isTorn_118 okX7_mask) cs_0_ok)
theorem xcX7_isTorn : (∀ (Q : QT) (G : GT) (pc : Nat) (L : LV) (a0 a1 a2 a3 : Value) (r : List Value) (M : HM) (k n : Nat), ex_i 7 4 4 false csX7_isTorn Q G (.invokevirtual 118) pc L (a3 :: a2 :: a1 :: a0 :: r) M k n = (e_rm r ∧ e_rc M 7 [a0, a1, a2, a3] ∧ sp_X7_mask [a0, a1, a2, a3] M k n (fun v M' k' n' => G (pc + 3) L (v.toList ++ r) M' k' n'))) := (fun _ _ _ _ _ _ _ _ _ _ _ _ => xv0_4 rfl)
def sp_X7_isTorn : SP := fun as M k n Q => match as with
  | [.ref m, .int i, .int j] => ∃ A s b bk x, MS A M m ∧ s < 8 ∧ mB A M s bk ∧ i = nI s ∧ j = nI b ∧ bk[b]? = some x ∧ Q (some (.int (if tornB x then 1 else 0))) M k n
  | _ => False
theorem okX7_isTorn : OkX7_isTorn sp_X7_isTorn := by
  refine inX7_isTorn csoX7_isTorn ?_
  intro as M k n Q hsp
  unfold sp_X7_isTorn at hsp
  split at hsp
  rotate_left
  · exact hsp.elim
  rename_i m i j
  obtain ⟨A, s, b, bk, x, hM, hs, hB, rfl, rfl, hx, hq⟩ := hsp
  have h0 := hM.1
  obtain ⟨r236, k236, l236⟩ : mR M 236 m = some (A 236) ∧ mK M (A 236) = 9 ∧ mN M (A 236) = 655360 := hM.2 236 rfl
  have hb := (List.getElem?_eq_some_iff.mp hx).1
  have hbl := hB.2.1
  have hz := (hB.2.2.2 x (List.mem_of_getElem? hx)).2.2
  have hT := (hB.2.2.1 b x hx).2
  refine ⟨0, 0, Nat.zero_le _, Nat.zero_le _, Nat.le_of_ble_eq_true rfl, fun G hG => ?_⟩
  have loop : ∀ d k, k + d = 256 → (∀ j, j < k → x.2 j = 0) → G 2 [(0, .ref m), (1, .int (nI s)), (2, .int (nI b)), (3, .int (nI k))] [] M 0 0 := by
    intro d
    induction d with
    | zero =>
      intro k hk h
      have e1 : ¬ nI k < 256 := nI_nlt (b := 256) (by omega) (by omega)
      refine e_g2 hG [] 60 ?_
      simp only [e_wp_s, Option.getD_some, Option.isSome_some, Option.isSome_none, xis0, xis1, xis2, xis3, xis4, e_ks, lk_k, lk_c, List.lookup_nil, gt_c, vi_i, k1_n, k1_c, k2_n, k2_c, ar_n, ar_c, pk_n, pk_c, rm_0, rm_1, rm_2, rm_3, rm_4, rm_5, rc_9, rcs, fvs, rf_s, rf_n, isI_i, isL_l, isR_r, isR_n, isR_q, ct_i, ct_l, ct_r, ct_n, ct_q, tFs, tCs, tKs, tJs, tSs, e_nf, lgs, ↓reduceIte, true_and, and_true, false_and, and_false, or_true, true_or, false_or, or_false, Nat.reduceAdd, Nat.reduceEqDiff, Nat.reduceDiv, Nat.reduceLT, Nat.reduceLeDiff, Nat.zero_add, reduceCtorEq, Bool.false_eq_true, Option.toList_some, Option.toList_none, List.cons_append, List.nil_append, not_true_eq_false, not_false_eq_true, Nat.sub_zero, dsX7_isTorn, jsX7_isTorn, xcX7_isTorn, e1]
      have : tornB x = false := (torn_f hz).mpr (fun j hj => h j (by omega))
      simpa [this] using hq
    | succ d ih =>
      intro k hk h
      have e1 : nI k < 256 := nI_lt (b := 256) (by omega) (by decide)
      have e2 : (nI (256 * (320 * s + b) + k)).toNatClampNeg = 256 * (320 * s + b) + k := nI_clamp (by omega)
      have e3 : vp_in (nI (256 * (320 * s + b) + k)) 655360 := vp_in_nI (by omega) (by decide)
      have e4 := hT k (by omega)
      by_cases c : x.2 k = 0
      · refine e_g2 hG [(2, [0, 1, 2, 3])] 60 ?_
        simp only [e_wp_s, Option.getD_some, Option.isSome_some, Option.isSome_none, xis0, xis1, xis2, xis3, xis4, e_ks, lk_k, lk_c, List.lookup_nil, gt_c, vi_i, k1_n, k1_c, k2_n, k2_c, ar_n, ar_c, pk_n, pk_c, rm_0, rm_1, rm_2, rm_3, rm_4, rm_5, rc_9, rcs, fvs, rf_s, rf_n, isI_i, isL_l, isR_r, isR_n, isR_q, ct_i, ct_l, ct_r, ct_n, ct_q, tFs, tCs, tKs, tJs, tSs, e_nf, lgs, ↓reduceIte, true_and, and_true, false_and, and_false, or_true, true_or, false_or, or_false, Nat.reduceAdd, Nat.reduceEqDiff, Nat.reduceDiv, Nat.reduceLT, Nat.reduceLeDiff, Nat.zero_add, reduceCtorEq, Bool.false_eq_true, Option.toList_some, Option.toList_none, List.cons_append, List.nil_append, not_true_eq_false, not_false_eq_true, Nat.sub_zero, dsX7_isTorn, jsX7_isTorn, xcX7_isTorn, h0, r236, k236, l236, e1, e2, e3, e4, c, ↓sp_X7_mask, mst, nI_1]
        exact ih (k + 1) (by omega) (fun j hj => by
          by_cases c2 : j = k
          · rw [c2]; exact c
          · exact h j (by omega))
      · refine e_g2 hG [] 60 ?_
        simp only [e_wp_s, Option.getD_some, Option.isSome_some, Option.isSome_none, xis0, xis1, xis2, xis3, xis4, e_ks, lk_k, lk_c, List.lookup_nil, gt_c, vi_i, k1_n, k1_c, k2_n, k2_c, ar_n, ar_c, pk_n, pk_c, rm_0, rm_1, rm_2, rm_3, rm_4, rm_5, rc_9, rcs, fvs, rf_s, rf_n, isI_i, isL_l, isR_r, isR_n, isR_q, ct_i, ct_l, ct_r, ct_n, ct_q, tFs, tCs, tKs, tJs, tSs, e_nf, lgs, ↓reduceIte, true_and, and_true, false_and, and_false, or_true, true_or, false_or, or_false, Nat.reduceAdd, Nat.reduceEqDiff, Nat.reduceDiv, Nat.reduceLT, Nat.reduceLeDiff, Nat.zero_add, reduceCtorEq, Bool.false_eq_true, Option.toList_some, Option.toList_none, List.cons_append, List.nil_append, not_true_eq_false, not_false_eq_true, Nat.sub_zero, dsX7_isTorn, jsX7_isTorn, xcX7_isTorn, h0, r236, k236, l236, e1, e2, e3, e4, c, ↓sp_X7_mask, mst, nI_1]
        have : tornB x = true := by
          cases ht : tornB x with
          | true => rfl
          | false => exact absurd ((torn_f hz).mp ht k (by omega)) c
        simpa [this] using hq
  refine e_g2 hG [(2, [0, 1, 2, 3])] 60 ?_
  simp only [e_wp_s, Option.getD_some, Option.isSome_some, Option.isSome_none, xis0, xis1, xis2, xis3, xis4, e_ks, lk_k, lk_c, List.lookup_nil, gt_c, vi_i, k1_n, k1_c, k2_n, k2_c, ar_n, ar_c, pk_n, pk_c, rm_0, rm_1, rm_2, rm_3, rm_4, rm_5, rc_9, rcs, fvs, rf_s, rf_n, isI_i, isL_l, isR_r, isR_n, isR_q, ct_i, ct_l, ct_r, ct_n, ct_q, tFs, tCs, tKs, tJs, tSs, e_nf, lgs, ↓reduceIte, true_and, and_true, false_and, and_false, or_true, true_or, false_or, or_false, Nat.reduceAdd, Nat.reduceEqDiff, Nat.reduceDiv, Nat.reduceLT, Nat.reduceLeDiff, Nat.zero_add, reduceCtorEq, Bool.false_eq_true, Option.toList_some, Option.toList_none, List.cons_append, List.nil_append, not_true_eq_false, not_false_eq_true, Nat.sub_zero, dsX7_isTorn, jsX7_isTorn, xcX7_isTorn]
  exact loop 256 0 (by omega) (fun j hj => by omega)
def csX7_tornBlocks : CS := (cs_c 0 122 3 7 sp_X7_isTorn cs_0)
theorem csoX7_tornBlocks : ∀ op x na cl sp, csX7_tornBlocks op x = some (na, cl, sp) → CallOK 7 3 68 op x na cl sp := (cs_c_ok (caX7_tornBlocks_122 okX7_isTorn) cs_0_ok)
theorem xcX7_tornBlocks : (∀ (Q : QT) (G : GT) (pc : Nat) (L : LV) (a0 a1 a2 : Value) (r : List Value) (M : HM) (k n : Nat), ex_i 7 4 1 false csX7_tornBlocks Q G (.invokevirtual 122) pc L (a2 :: a1 :: a0 :: r) M k n = (e_rm r ∧ e_rc M 7 [a0, a1, a2] ∧ sp_X7_isTorn [a0, a1, a2] M k n (fun v M' k' n' => G (pc + 3) L (v.toList ++ r) M' k' n'))) := (fun _ _ _ _ _ _ _ _ _ _ _ => xv0_3 rfl)
def sp_X7_tornBlocks : SP := fun as M k n Q => match as with
  | [.ref m, .int i] => ∃ A s bk, MS A M m ∧ s < 8 ∧ mB A M s bk ∧ i = nI s ∧ Q (some (.int (nI (tornN bk)))) M k n
  | _ => False
theorem okX7_tornBlocks : OkX7_tornBlocks sp_X7_tornBlocks := by
  refine inX7_tornBlocks csoX7_tornBlocks ?_
  intro as M k n Q hsp
  unfold sp_X7_tornBlocks at hsp
  split at hsp
  rotate_left
  · exact hsp.elim
  rename_i m i
  obtain ⟨A, s, bk, hM, hs, hB, rfl, hq⟩ := hsp
  have h0 := hM.1
  obtain ⟨r228, k228, l228⟩ : mR M 228 m = some (A 228) ∧ mK M (A 228) = 9 ∧ mN M (A 228) = 8 := hM.2 228 rfl
  have hbl := hB.2.1
  have hc := hB.1
  have e2 : (nI s).toNatClampNeg = s := nI_clamp (by omega)
  have e3 : vp_in (nI s) 8 := vp_in_nI hs (by decide)
  refine ⟨0, 0, Nat.zero_le _, Nat.zero_le _, Nat.le_of_ble_eq_true rfl, fun G hG => ?_⟩
  have loop : ∀ d k, k + d = bk.length → G 4 [(0, .ref m), (1, .int (nI s)), (2, .int (nI (tornN (bk.take k)))), (3, .int (nI k))] [] M 0 0 := by
    intro d
    induction d with
    | zero =>
      intro k hk
      have e1 : ¬ nI k < nI bk.length := nI_nlt (by omega) (by omega)
      refine e_g2 hG [] 60 ?_
      simp only [e_wp_s, Option.getD_some, Option.isSome_some, Option.isSome_none, xis0, xis1, xis2, xis3, xis4, e_ks, lk_k, lk_c, List.lookup_nil, gt_c, vi_i, k1_n, k1_c, k2_n, k2_c, ar_n, ar_c, pk_n, pk_c, rm_0, rm_1, rm_2, rm_3, rm_4, rm_5, rc_9, rcs, fvs, rf_s, rf_n, isI_i, isL_l, isR_r, isR_n, isR_q, ct_i, ct_l, ct_r, ct_n, ct_q, tFs, tCs, tKs, tJs, tSs, e_nf, lgs, ↓reduceIte, true_and, and_true, false_and, and_false, or_true, true_or, false_or, or_false, Nat.reduceAdd, Nat.reduceEqDiff, Nat.reduceDiv, Nat.reduceLT, Nat.reduceLeDiff, Nat.zero_add, reduceCtorEq, Bool.false_eq_true, Option.toList_some, Option.toList_none, List.cons_append, List.nil_append, not_true_eq_false, not_false_eq_true, Nat.sub_zero, dsX7_tornBlocks, jsX7_tornBlocks, xcX7_tornBlocks, h0, r228, k228, l228, hc, e1, e2, e3]
      rw [show k = bk.length by omega, List.take_length]
      exact hq
    | succ d ih =>
      intro k hk
      have e1 : nI k < nI bk.length := nI_lt (by omega) (by omega)
      obtain ⟨x, hx⟩ : ∃ x, bk[k]? = some x := ⟨_, List.getElem?_eq_getElem (by omega)⟩
      have ih2 := ih (k + 1) (by omega)
      have ht : tornN (bk.take (k + 1)) = tornN (bk.take k) + if tornB x then 1 else 0 := by
        unfold tornN; rw [take_1 hx, List.map_append, List.sum_append]; simp
      rw [ht] at ih2
      refine e_g2 hG [(21, [0, 1, 3])] 60 ?_
      simp only [e_wp_s, Option.getD_some, Option.isSome_some, Option.isSome_none, xis0, xis1, xis2, xis3, xis4, e_ks, lk_k, lk_c, List.lookup_nil, gt_c, vi_i, k1_n, k1_c, k2_n, k2_c, ar_n, ar_c, pk_n, pk_c, rm_0, rm_1, rm_2, rm_3, rm_4, rm_5, rc_9, rcs, fvs, rf_s, rf_n, isI_i, isL_l, isR_r, isR_n, isR_q, ct_i, ct_l, ct_r, ct_n, ct_q, tFs, tCs, tKs, tJs, tSs, e_nf, lgs, ↓reduceIte, true_and, and_true, false_and, and_false, or_true, true_or, false_or, or_false, Nat.reduceAdd, Nat.reduceEqDiff, Nat.reduceDiv, Nat.reduceLT, Nat.reduceLeDiff, Nat.zero_add, reduceCtorEq, Bool.false_eq_true, Option.toList_some, Option.toList_none, List.cons_append, List.nil_append, not_true_eq_false, not_false_eq_true, Nat.sub_zero, dsX7_tornBlocks, jsX7_tornBlocks, xcX7_tornBlocks, h0, r228, k228, l228, hc, e1, e2, e3]
      refine ⟨A, s, k, bk, x, hM, hs, hB, rfl, rfl, hx, ?_⟩
      by_cases c : tornB x = true
      · rw [if_pos c] at ih2 ⊢
        refine e_g2 hG [(4, [0, 1, 2, 3])] 60 ?_
        simp only [e_wp_s, Option.getD_some, Option.isSome_some, Option.isSome_none, xis0, xis1, xis2, xis3, xis4, e_ks, lk_k, lk_c, List.lookup_nil, gt_c, vi_i, k1_n, k1_c, k2_n, k2_c, ar_n, ar_c, pk_n, pk_c, rm_0, rm_1, rm_2, rm_3, rm_4, rm_5, rc_9, rcs, fvs, rf_s, rf_n, isI_i, isL_l, isR_r, isR_n, isR_q, ct_i, ct_l, ct_r, ct_n, ct_q, tFs, tCs, tKs, tJs, tSs, e_nf, lgs, ↓reduceIte, true_and, and_true, false_and, and_false, or_true, true_or, false_or, or_false, Nat.reduceAdd, Nat.reduceEqDiff, Nat.reduceDiv, Nat.reduceLT, Nat.reduceLeDiff, Nat.zero_add, reduceCtorEq, Bool.false_eq_true, Option.toList_some, Option.toList_none, List.cons_append, List.nil_append, not_true_eq_false, not_false_eq_true, Nat.sub_zero, dsX7_tornBlocks, jsX7_tornBlocks, xcX7_tornBlocks, i10, nI_1]
        exact ih2
      · rw [if_neg c, Nat.add_zero] at ih2
        rw [if_neg c]
        refine e_g2 hG [(4, [0, 1, 2, 3])] 60 ?_
        simp only [e_wp_s, Option.getD_some, Option.isSome_some, Option.isSome_none, xis0, xis1, xis2, xis3, xis4, e_ks, lk_k, lk_c, List.lookup_nil, gt_c, vi_i, k1_n, k1_c, k2_n, k2_c, ar_n, ar_c, pk_n, pk_c, rm_0, rm_1, rm_2, rm_3, rm_4, rm_5, rc_9, rcs, fvs, rf_s, rf_n, isI_i, isL_l, isR_r, isR_n, isR_q, ct_i, ct_l, ct_r, ct_n, ct_q, tFs, tCs, tKs, tJs, tSs, e_nf, lgs, ↓reduceIte, true_and, and_true, false_and, and_false, or_true, true_or, false_or, or_false, Nat.reduceAdd, Nat.reduceEqDiff, Nat.reduceDiv, Nat.reduceLT, Nat.reduceLeDiff, Nat.zero_add, reduceCtorEq, Bool.false_eq_true, Option.toList_some, Option.toList_none, List.cons_append, List.nil_append, not_true_eq_false, not_false_eq_true, Nat.sub_zero, dsX7_tornBlocks, jsX7_tornBlocks, xcX7_tornBlocks, i10, nI_1]
        rw [Int32.add_zero]
        exact ih2
  refine e_g2 hG [(4, [0, 1, 2, 3])] 60 ?_
  simp only [e_wp_s, Option.getD_some, Option.isSome_some, Option.isSome_none, xis0, xis1, xis2, xis3, xis4, e_ks, lk_k, lk_c, List.lookup_nil, gt_c, vi_i, k1_n, k1_c, k2_n, k2_c, ar_n, ar_c, pk_n, pk_c, rm_0, rm_1, rm_2, rm_3, rm_4, rm_5, rc_9, rcs, fvs, rf_s, rf_n, isI_i, isL_l, isR_r, isR_n, isR_q, ct_i, ct_l, ct_r, ct_n, ct_q, tFs, tCs, tKs, tJs, tSs, e_nf, lgs, ↓reduceIte, true_and, and_true, false_and, and_false, or_true, true_or, false_or, or_false, Nat.reduceAdd, Nat.reduceEqDiff, Nat.reduceDiv, Nat.reduceLT, Nat.reduceLeDiff, Nat.zero_add, reduceCtorEq, Bool.false_eq_true, Option.toList_some, Option.toList_none, List.cons_append, List.nil_append, not_true_eq_false, not_false_eq_true, Nat.sub_zero, dsX7_tornBlocks, jsX7_tornBlocks, xcX7_tornBlocks]
  exact loop bk.length 0 (by omega)
def csX7_lastEnd : CS := cs_0
theorem csoX7_lastEnd : ∀ op x na cl sp, csX7_lastEnd op x = some (na, cl, sp) → CallOK 7 0 0 op x na cl sp := cs_0_ok
def sp_X7_lastEnd : SP := fun as M k n Q => match as with
  | [.ref m, .int i] => ∃ A s sp, MS A M m ∧ s < 8 ∧ mSp A M s sp ∧ i = nI s ∧ Q (some (.int (sEnd sp))) M k n
  | _ => False
theorem mSp_at {A : Nat → Nat} {M : HM} {s i : Nat} {l : List SPN} {q : SPN} (h : mSp A M s l) (hq : l[i]? = some q) : spv A M (70 * s + i) = q ∧ i < l.length ∧ i < 60 := by
  have hx := rdf_at h.2.2 hq
  have hi := (List.getElem?_eq_some_iff.mp hq).1
  have h3 := h.2.1
  exact ⟨hx, hi, by omega⟩
theorem okX7_lastEnd : OkX7_lastEnd sp_X7_lastEnd := by
  refine inX7_lastEnd csoX7_lastEnd ?_
  intro as M k n Q hsp
  unfold sp_X7_lastEnd at hsp
  split at hsp
  rotate_left
  · exact hsp.elim
  rename_i m i
  obtain ⟨A, s, sp, hM, hs, hS, rfl, hq⟩ := hsp
  have h0 := hM.1
  obtain ⟨r230, k230, l230⟩ : mR M 230 m = some (A 230) ∧ mK M (A 230) = 9 ∧ mN M (A 230) = 8 := hM.2 230 rfl
  obtain ⟨r238, k238, l238⟩ : mR M 238 m = some (A 238) ∧ mK M (A 238) = 9 ∧ mN M (A 238) = 560 := hM.2 238 rfl
  have hc := hS.1
  have h60 := hS.2.1
  have e2 : (nI s).toNatClampNeg = s := nI_clamp (by omega)
  have e3 : vp_in (nI s) 8 := vp_in_nI hs (by decide)
  refine ⟨0, 0, Nat.zero_le _, Nat.zero_le _, Nat.le_of_ble_eq_true rfl, fun G hG => ?_⟩
  rcases nil_snoc sp with rfl | ⟨l, x, rfl⟩
  · have hc' : aI M (A 230) s = 0 := hc
    refine e_g2 hG [] 60 ?_
    simp only [e_wp_s, Option.getD_some, Option.isSome_some, Option.isSome_none, xis0, xis1, xis2, xis3, xis4, e_ks, lk_k, lk_c, List.lookup_nil, gt_c, vi_i, k1_n, k1_c, k2_n, k2_c, ar_n, ar_c, pk_n, pk_c, rm_0, rm_1, rm_2, rm_3, rm_4, rm_5, rc_9, rcs, fvs, rf_s, rf_n, isI_i, isL_l, isR_r, isR_n, isR_q, ct_i, ct_l, ct_r, ct_n, ct_q, tFs, tCs, tKs, tJs, tSs, e_nf, lgs, ↓reduceIte, true_and, and_true, false_and, and_false, or_true, true_or, false_or, or_false, Nat.reduceAdd, Nat.reduceEqDiff, Nat.reduceDiv, Nat.reduceLT, Nat.reduceLeDiff, Nat.zero_add, reduceCtorEq, Bool.false_eq_true, Option.toList_some, Option.toList_none, List.cons_append, List.nil_append, not_true_eq_false, not_false_eq_true, Nat.sub_zero, dsX7_lastEnd, jsX7_lastEnd, h0, r230, k230, l230, hc', e2, e3]
    exact hq
  · have hl : (l ++ [x]).length = l.length + 1 := by simp
    rw [hl] at hc h60
    have n0 : ¬ nI (l.length + 1) = 0 := nI_ne0 (by omega) (by omega)
    obtain ⟨w1, -, -⟩ := mSp_at hS (i := l.length) (q := x) (by simp)
    have w2 : aI M (A 238) (70 * s + l.length) = x.2.1 := by rw [← w1]; rfl
    have e4 : nI (70 * s + (l.length + 1)) - 1 = nI (70 * s + l.length) := nI_pred _
    have e5 : (nI (70 * s + l.length)).toNatClampNeg = 70 * s + l.length := nI_clamp (by omega)
    have e6 : vp_in (nI (70 * s + l.length)) 560 := vp_in_nI (by omega) (by decide)
    have hse : sEnd (l ++ [x]) = x.2.1 := by unfold sEnd; rw [List.getLast?_concat]
    rw [hse] at hq
    refine e_g2 hG [] 60 ?_
    simp only [e_wp_s, Option.getD_some, Option.isSome_some, Option.isSome_none, xis0, xis1, xis2, xis3, xis4, e_ks, lk_k, lk_c, List.lookup_nil, gt_c, vi_i, k1_n, k1_c, k2_n, k2_c, ar_n, ar_c, pk_n, pk_c, rm_0, rm_1, rm_2, rm_3, rm_4, rm_5, rc_9, rcs, fvs, rf_s, rf_n, isI_i, isL_l, isR_r, isR_n, isR_q, ct_i, ct_l, ct_r, ct_n, ct_q, tFs, tCs, tKs, tJs, tSs, e_nf, lgs, ↓reduceIte, true_and, and_true, false_and, and_false, or_true, true_or, false_or, or_false, Nat.reduceAdd, Nat.reduceEqDiff, Nat.reduceDiv, Nat.reduceLT, Nat.reduceLeDiff, Nat.zero_add, reduceCtorEq, Bool.false_eq_true, Option.toList_some, Option.toList_none, List.cons_append, List.nil_append, not_true_eq_false, not_false_eq_true, Nat.sub_zero, dsX7_lastEnd, jsX7_lastEnd, h0, r230, k230, l230, r238, k238, l238, hc, n0, e2, e3, l70, e4, e5, e6, w2]
    exact hq
def csX7_lateAt : CS := cs_0
theorem csoX7_lateAt : ∀ op x na cl sp, csX7_lateAt op x = some (na, cl, sp) → CallOK 7 0 0 op x na cl sp := cs_0_ok
def sp_X7_lateAt : SP := fun as M k n Q => match as with
  | [.ref m, .int i, .int t] => ∃ A s lt, MS A M m ∧ s < 8 ∧ mT A M s lt ∧ i = nI s ∧ Q (some (.int (nI (lbl t lt)))) M k n
  | _ => False
theorem mT_at {A : Nat → Nat} {M : HM} {s i : Nat} {l : List PT} {q : PT} (h : mT A M s l) (hq : l[i]? = some q) : aI M (A 233) (50 * s + i) = q.1 ∧ aL M (A 235) (50 * s + i) = q.2 ∧ i < l.length ∧ i < 40 := by
  have := rdf_at h.2.2 hq
  have hi := (List.getElem?_eq_some_iff.mp hq).1
  have h3 := h.2.1
  exact ⟨by rw [← ‹_ = q›], by rw [← ‹_ = q›], hi, by omega⟩
theorem okX7_lateAt : OkX7_lateAt sp_X7_lateAt := by
  refine inX7_lateAt csoX7_lateAt ?_
  intro as M k n Q hsp
  unfold sp_X7_lateAt at hsp
  split at hsp
  rotate_left
  · exact hsp.elim
  rename_i m i t
  obtain ⟨A, s, lt, hM, hs, hT, rfl, hq⟩ := hsp
  have h0 := hM.1
  obtain ⟨r229, k229, l229⟩ : mR M 229 m = some (A 229) ∧ mK M (A 229) = 9 ∧ mN M (A 229) = 8 := hM.2 229 rfl
  obtain ⟨r233, k233, l233⟩ : mR M 233 m = some (A 233) ∧ mK M (A 233) = 9 ∧ mN M (A 233) = 400 := hM.2 233 rfl
  have hc := hT.1
  have h40 := hT.2.1
  have e2 : (nI s).toNatClampNeg = s := nI_clamp (by omega)
  have e3 : vp_in (nI s) 8 := vp_in_nI hs (by decide)
  refine ⟨0, 0, Nat.zero_le _, Nat.zero_le _, Nat.le_of_ble_eq_true rfl, fun G hG => ?_⟩
  have loop : ∀ d k, k + d = lt.length → k + lbl t (lt.drop k) = lbl t lt → G 2 [(0, .ref m), (1, .int (nI s)), (2, .int t), (3, .int (nI k))] [] M 0 0 := by
    intro d
    induction d with
    | zero =>
      intro k hk he
      have e1 : ¬ nI k < nI lt.length := nI_nlt (by omega) (by omega)
      rw [List.drop_eq_nil_of_le (by omega)] at he
      refine e_g2 hG [] 60 ?_
      simp only [e_wp_s, Option.getD_some, Option.isSome_some, Option.isSome_none, xis0, xis1, xis2, xis3, xis4, e_ks, lk_k, lk_c, List.lookup_nil, gt_c, vi_i, k1_n, k1_c, k2_n, k2_c, ar_n, ar_c, pk_n, pk_c, rm_0, rm_1, rm_2, rm_3, rm_4, rm_5, rc_9, rcs, fvs, rf_s, rf_n, isI_i, isL_l, isR_r, isR_n, isR_q, ct_i, ct_l, ct_r, ct_n, ct_q, tFs, tCs, tKs, tJs, tSs, e_nf, lgs, ↓reduceIte, true_and, and_true, false_and, and_false, or_true, true_or, false_or, or_false, Nat.reduceAdd, Nat.reduceEqDiff, Nat.reduceDiv, Nat.reduceLT, Nat.reduceLeDiff, Nat.zero_add, reduceCtorEq, Bool.false_eq_true, Option.toList_some, Option.toList_none, List.cons_append, List.nil_append, not_true_eq_false, not_false_eq_true, Nat.sub_zero, dsX7_lateAt, jsX7_lateAt, h0, r229, k229, l229, hc, e1, e2, e3]
      rw [show k = lbl t lt from he]
      exact hq
    | succ d ih =>
      intro k hk he
      have e1 : nI k < nI lt.length := nI_lt (by omega) (by omega)
      obtain ⟨q, hx⟩ : ∃ q, lt[k]? = some q := ⟨_, List.getElem?_eq_getElem (by omega)⟩
      obtain ⟨w1, w2, w3, w4⟩ := mT_at hT hx
      have e4 : (nI (50 * s + k)).toNatClampNeg = 50 * s + k := nI_clamp (by omega)
      have e5 : vp_in (nI (50 * s + k)) 400 := vp_in_nI (by omega) (by decide)
      rw [lbl_drop (t := t) hx, lbl] at he
      by_cases c : q.1 < t
      · rw [if_pos c] at he
        refine e_g2 hG [(2, [0, 1, 2, 3])] 60 ?_
        simp only [e_wp_s, Option.getD_some, Option.isSome_some, Option.isSome_none, xis0, xis1, xis2, xis3, xis4, e_ks, lk_k, lk_c, List.lookup_nil, gt_c, vi_i, k1_n, k1_c, k2_n, k2_c, ar_n, ar_c, pk_n, pk_c, rm_0, rm_1, rm_2, rm_3, rm_4, rm_5, rc_9, rcs, fvs, rf_s, rf_n, isI_i, isL_l, isR_r, isR_n, isR_q, ct_i, ct_l, ct_r, ct_n, ct_q, tFs, tCs, tKs, tJs, tSs, e_nf, lgs, ↓reduceIte, true_and, and_true, false_and, and_false, or_true, true_or, false_or, or_false, Nat.reduceAdd, Nat.reduceEqDiff, Nat.reduceDiv, Nat.reduceLT, Nat.reduceLeDiff, Nat.zero_add, reduceCtorEq, Bool.false_eq_true, Option.toList_some, Option.toList_none, List.cons_append, List.nil_append, not_true_eq_false, not_false_eq_true, Nat.sub_zero, dsX7_lateAt, jsX7_lateAt, h0, r229, k229, l229, r233, k233, l233, hc, e1, e2, e3, e4, e5, w1, c, l50, nI_1]
        exact ih (k + 1) (by omega) (by omega)
      · rw [if_neg c] at he
        refine e_g2 hG [] 60 ?_
        simp only [e_wp_s, Option.getD_some, Option.isSome_some, Option.isSome_none, xis0, xis1, xis2, xis3, xis4, e_ks, lk_k, lk_c, List.lookup_nil, gt_c, vi_i, k1_n, k1_c, k2_n, k2_c, ar_n, ar_c, pk_n, pk_c, rm_0, rm_1, rm_2, rm_3, rm_4, rm_5, rc_9, rcs, fvs, rf_s, rf_n, isI_i, isL_l, isR_r, isR_n, isR_q, ct_i, ct_l, ct_r, ct_n, ct_q, tFs, tCs, tKs, tJs, tSs, e_nf, lgs, ↓reduceIte, true_and, and_true, false_and, and_false, or_true, true_or, false_or, or_false, Nat.reduceAdd, Nat.reduceEqDiff, Nat.reduceDiv, Nat.reduceLT, Nat.reduceLeDiff, Nat.zero_add, reduceCtorEq, Bool.false_eq_true, Option.toList_some, Option.toList_none, List.cons_append, List.nil_append, not_true_eq_false, not_false_eq_true, Nat.sub_zero, dsX7_lateAt, jsX7_lateAt, h0, r229, k229, l229, r233, k233, l233, hc, e1, e2, e3, e4, e5, w1, c, l50, nI_1]
        rw [show k = lbl t lt from he]
        exact hq
  refine e_g2 hG [(2, [0, 1, 2, 3])] 60 ?_
  simp only [e_wp_s, Option.getD_some, Option.isSome_some, Option.isSome_none, xis0, xis1, xis2, xis3, xis4, e_ks, lk_k, lk_c, List.lookup_nil, gt_c, vi_i, k1_n, k1_c, k2_n, k2_c, ar_n, ar_c, pk_n, pk_c, rm_0, rm_1, rm_2, rm_3, rm_4, rm_5, rc_9, rcs, fvs, rf_s, rf_n, isI_i, isL_l, isR_r, isR_n, isR_q, ct_i, ct_l, ct_r, ct_n, ct_q, tFs, tCs, tKs, tJs, tSs, e_nf, lgs, ↓reduceIte, true_and, and_true, false_and, and_false, or_true, true_or, false_or, or_false, Nat.reduceAdd, Nat.reduceEqDiff, Nat.reduceDiv, Nat.reduceLT, Nat.reduceLeDiff, Nat.zero_add, reduceCtorEq, Bool.false_eq_true, Option.toList_some, Option.toList_none, List.cons_append, List.nil_append, not_true_eq_false, not_false_eq_true, Nat.sub_zero, dsX7_lateAt, jsX7_lateAt]
  exact loop lt.length 0 (by omega) (by rw [Nat.zero_add]; rfl)
def csX7_isLate : CS := (cs_c 0 166 3 7 sp_X7_lateAt cs_0)
theorem csoX7_isLate : ∀ op x na cl sp, csX7_isLate op x = some (na, cl, sp) → CallOK 7 1 23 op x na cl sp := (cs_c_ok (caX7_isLate_166 okX7_lateAt) cs_0_ok)
theorem xcX7_isLate : (∀ (Q : QT) (G : GT) (pc : Nat) (L : LV) (a0 a1 a2 : Value) (r : List Value) (M : HM) (k n : Nat), ex_i 7 4 4 false csX7_isLate Q G (.invokevirtual 166) pc L (a2 :: a1 :: a0 :: r) M k n = (e_rm r ∧ e_rc M 7 [a0, a1, a2] ∧ sp_X7_lateAt [a0, a1, a2] M k n (fun v M' k' n' => G (pc + 3) L (v.toList ++ r) M' k' n'))) := (fun _ _ _ _ _ _ _ _ _ _ _ => xv0_3 rfl)
def sp_X7_isLate : SP := fun as M k n Q => match as with
  | [.ref m, .int i, .int t] => ∃ A s lt, MS A M m ∧ s < 8 ∧ mT A M s lt ∧ i = nI s ∧ Q (some (.int (if hasT lt t then 1 else 0))) M k n
  | _ => False
theorem okX7_isLate : OkX7_isLate sp_X7_isLate := by
  refine inX7_isLate csoX7_isLate ?_
  intro as M k n Q hsp
  unfold sp_X7_isLate at hsp
  split at hsp
  rotate_left
  · exact hsp.elim
  rename_i m i t
  obtain ⟨A, s, lt, hM, hs, hT, rfl, hq⟩ := hsp
  have h0 := hM.1
  obtain ⟨r229, k229, l229⟩ : mR M 229 m = some (A 229) ∧ mK M (A 229) = 9 ∧ mN M (A 229) = 8 := hM.2 229 rfl
  obtain ⟨r233, k233, l233⟩ : mR M 233 m = some (A 233) ∧ mK M (A 233) = 9 ∧ mN M (A 233) = 400 := hM.2 233 rfl
  have hc := hT.1
  have h40 := hT.2.1
  have e2 : (nI s).toNatClampNeg = s := nI_clamp (by omega)
  have e3 : vp_in (nI s) 8 := vp_in_nI hs (by decide)
  have hle := lbl_le t lt
  refine ⟨0, 0, Nat.zero_le _, Nat.zero_le _, Nat.le_of_ble_eq_true rfl, fun G hG => ?_⟩
  refine e_g2 hG [(6, [0, 1, 2])] 60 ?_
  simp only [e_wp_s, Option.getD_some, Option.isSome_some, Option.isSome_none, xis0, xis1, xis2, xis3, xis4, e_ks, lk_k, lk_c, List.lookup_nil, gt_c, vi_i, k1_n, k1_c, k2_n, k2_c, ar_n, ar_c, pk_n, pk_c, rm_0, rm_1, rm_2, rm_3, rm_4, rm_5, rc_9, rcs, fvs, rf_s, rf_n, isI_i, isL_l, isR_r, isR_n, isR_q, ct_i, ct_l, ct_r, ct_n, ct_q, tFs, tCs, tKs, tJs, tSs, e_nf, lgs, ↓reduceIte, true_and, and_true, false_and, and_false, or_true, true_or, false_or, or_false, Nat.reduceAdd, Nat.reduceEqDiff, Nat.reduceDiv, Nat.reduceLT, Nat.reduceLeDiff, Nat.zero_add, reduceCtorEq, Bool.false_eq_true, Option.toList_some, Option.toList_none, List.cons_append, List.nil_append, not_true_eq_false, not_false_eq_true, Nat.sub_zero, dsX7_isLate, jsX7_isLate, xcX7_isLate, h0]
  refine ⟨A, s, lt, hM, hs, hT, rfl, ?_⟩
  cases hx : lt[lbl t lt]? with
  | none =>
    have hh : hasT lt t = false := by unfold hasT; rw [hx]
    have e1 : ¬ nI (lbl t lt) < nI lt.length := nI_nlt (List.getElem?_eq_none_iff.mp hx) (by omega)
    refine e_g2 hG [] 60 ?_
    simp only [e_wp_s, Option.getD_some, Option.isSome_some, Option.isSome_none, xis0, xis1, xis2, xis3, xis4, e_ks, lk_k, lk_c, List.lookup_nil, gt_c, vi_i, k1_n, k1_c, k2_n, k2_c, ar_n, ar_c, pk_n, pk_c, rm_0, rm_1, rm_2, rm_3, rm_4, rm_5, rc_9, rcs, fvs, rf_s, rf_n, isI_i, isL_l, isR_r, isR_n, isR_q, ct_i, ct_l, ct_r, ct_n, ct_q, tFs, tCs, tKs, tJs, tSs, e_nf, lgs, ↓reduceIte, true_and, and_true, false_and, and_false, or_true, true_or, false_or, or_false, Nat.reduceAdd, Nat.reduceEqDiff, Nat.reduceDiv, Nat.reduceLT, Nat.reduceLeDiff, Nat.zero_add, reduceCtorEq, Bool.false_eq_true, Option.toList_some, Option.toList_none, List.cons_append, List.nil_append, not_true_eq_false, not_false_eq_true, Nat.sub_zero, dsX7_isLate, jsX7_isLate, xcX7_isLate, h0, r229, k229, l229, hc, e1, e2, e3]
    simpa [hh] using hq
  | some q =>
    have hh : hasT lt t = decide (q.1 = t) := by unfold hasT; rw [hx]
    obtain ⟨w1, w2, w3, w4⟩ := mT_at hT hx
    have e1 : nI (lbl t lt) < nI lt.length := nI_lt w3 (by omega)
    have e4 : (nI (50 * s + lbl t lt)).toNatClampNeg = 50 * s + lbl t lt := nI_clamp (by omega)
    have e5 : vp_in (nI (50 * s + lbl t lt)) 400 := vp_in_nI (by omega) (by decide)
    refine e_g2 hG [] 60 ?_
    simp only [e_wp_s, Option.getD_some, Option.isSome_some, Option.isSome_none, xis0, xis1, xis2, xis3, xis4, e_ks, lk_k, lk_c, List.lookup_nil, gt_c, vi_i, k1_n, k1_c, k2_n, k2_c, ar_n, ar_c, pk_n, pk_c, rm_0, rm_1, rm_2, rm_3, rm_4, rm_5, rc_9, rcs, fvs, rf_s, rf_n, isI_i, isL_l, isR_r, isR_n, isR_q, ct_i, ct_l, ct_r, ct_n, ct_q, tFs, tCs, tKs, tJs, tSs, e_nf, lgs, ↓reduceIte, true_and, and_true, false_and, and_false, or_true, true_or, false_or, or_false, Nat.reduceAdd, Nat.reduceEqDiff, Nat.reduceDiv, Nat.reduceLT, Nat.reduceLeDiff, Nat.zero_add, reduceCtorEq, Bool.false_eq_true, Option.toList_some, Option.toList_none, List.cons_append, List.nil_append, not_true_eq_false, not_false_eq_true, Nat.sub_zero, dsX7_isLate, jsX7_isLate, xcX7_isLate, h0, r229, k229, l229, r233, k233, l233, hc, e1, e2, e3, e4, e5, w1, l50]
    by_cases c : q.1 = t <;> simp [hh, c] at hq ⊢ <;> exact hq
def csX7_has : CS := cs_0
theorem csoX7_has : ∀ op x na cl sp, csX7_has op x = some (na, cl, sp) → CallOK 7 0 0 op x na cl sp := cs_0_ok
def sp_X7_has : SP := fun as M k n Q => match as with
  | [.ref m, .int i, .int key, .int v] => ∃ A s S, MS A M m ∧ s < 8 ∧ mH A M s S.1 S.2.1 ∧ i = nI s ∧ Q (some (.int (if bear S key v then 1 else 0))) M k n
  | _ => False
theorem okX7_has : OkX7_has sp_X7_has := by
  refine inX7_has csoX7_has ?_
  intro as M k n Q hsp
  unfold sp_X7_has at hsp
  split at hsp
  rotate_left
  · exact hsp.elim
  rename_i m i key v
  obtain ⟨A, s, S, hM, hs, hH, rfl, hq⟩ := hsp
  have h0 := hM.1
  obtain ⟨r226, k226, l226⟩ : mR M 226 m = some (A 226) ∧ mK M (A 226) = 9 ∧ mN M (A 226) = 64 := hM.2 226 rfl
  refine ⟨0, 0, Nat.zero_le _, Nat.zero_le _, Nat.le_of_ble_eq_true rfl, fun G hG => ?_⟩
  unfold bear labO at hq
  by_cases c1 : key < 0
  · refine e_g2 hG [] 60 ?_
    simp only [e_wp_s, Option.getD_some, Option.isSome_some, Option.isSome_none, xis0, xis1, xis2, xis3, xis4, e_ks, lk_k, lk_c, List.lookup_nil, gt_c, vi_i, k1_n, k1_c, k2_n, k2_c, ar_n, ar_c, pk_n, pk_c, rm_0, rm_1, rm_2, rm_3, rm_4, rm_5, rc_9, rcs, fvs, rf_s, rf_n, isI_i, isL_l, isR_r, isR_n, isR_q, ct_i, ct_l, ct_r, ct_n, ct_q, tFs, tCs, tKs, tJs, tSs, e_nf, lgs, ↓reduceIte, true_and, and_true, false_and, and_false, or_true, true_or, false_or, or_false, Nat.reduceAdd, Nat.reduceEqDiff, Nat.reduceDiv, Nat.reduceLT, Nat.reduceLeDiff, Nat.zero_add, reduceCtorEq, Bool.false_eq_true, Option.toList_some, Option.toList_none, List.cons_append, List.nil_append, not_true_eq_false, not_false_eq_true, Nat.sub_zero, dsX7_has, jsX7_has, c1]
    have : ¬ ((¬ v < 0 ∧ v < 16) ∧ (-1 : Int32) = v) := fun z => z.1.1 (by rw [← z.2]; decide)
    have hb : (decide (¬ v < 0 ∧ v < 16) && decide ((if ¬ key < 0 ∧ key < 8 then S.2.1 key.toNatClampNeg else -1) = v)) = false := by
      rw [if_neg (fun z => z.1 c1), Bool.and_eq_false_iff]
      by_cases c : ¬ v < 0 ∧ v < 16
      · exact Or.inr (decide_eq_false (fun z => this ⟨c, z⟩))
      · exact Or.inl (decide_eq_false c)
    rw [hb] at hq
    simpa using hq
  by_cases c2 : key < 8
  · by_cases c3 : v < 0
    · refine e_g2 hG [] 60 ?_
      simp only [e_wp_s, Option.getD_some, Option.isSome_some, Option.isSome_none, xis0, xis1, xis2, xis3, xis4, e_ks, lk_k, lk_c, List.lookup_nil, gt_c, vi_i, k1_n, k1_c, k2_n, k2_c, ar_n, ar_c, pk_n, pk_c, rm_0, rm_1, rm_2, rm_3, rm_4, rm_5, rc_9, rcs, fvs, rf_s, rf_n, isI_i, isL_l, isR_r, isR_n, isR_q, ct_i, ct_l, ct_r, ct_n, ct_q, tFs, tCs, tKs, tJs, tSs, e_nf, lgs, ↓reduceIte, true_and, and_true, false_and, and_false, or_true, true_or, false_or, or_false, Nat.reduceAdd, Nat.reduceEqDiff, Nat.reduceDiv, Nat.reduceLT, Nat.reduceLeDiff, Nat.zero_add, reduceCtorEq, Bool.false_eq_true, Option.toList_some, Option.toList_none, List.cons_append, List.nil_append, not_true_eq_false, not_false_eq_true, Nat.sub_zero, dsX7_has, jsX7_has, c1, c2, c3, ile]
      simpa [c3] using hq
    by_cases c4 : v < 16
    · obtain ⟨kk, hk, rfl⟩ := nI_of c1
      have hk8 := (nI_ltI hk (b := 8) (by decide)).mp c2
      have hL := hH.2 kk hk8
      have e4 : (nI (8 * s + kk)).toNatClampNeg = 8 * s + kk := nI_clamp (by omega)
      have e5 : vp_in (nI (8 * s + kk)) 64 := vp_in_nI (by omega) (by decide)
      have hcl : (nI kk).toNatClampNeg = kk := nI_clamp hk
      have hb : (decide (¬ v < 0 ∧ v < 16) && decide ((if ¬ nI kk < 0 ∧ nI kk < 8 then S.2.1 (nI kk).toNatClampNeg else -1) = v)) = decide (S.2.1 kk = v) := by
        rw [if_pos ⟨c1, c2⟩, hcl, decide_eq_true (show ¬ v < 0 ∧ v < 16 from ⟨c3, c4⟩), Bool.true_and]
      rw [hb] at hq
      have hcan : (S.2.1 kk + 1 = v + 1) = (S.2.1 kk = v) := propext ⟨fun z => by
        have := congrArg (fun w : Int32 => w - 1) z
        simpa [Int32.add_sub_cancel] using this, fun z => by rw [z]⟩
      refine e_g2 hG [] 60 ?_
      simp only [e_wp_s, Option.getD_some, Option.isSome_some, Option.isSome_none, xis0, xis1, xis2, xis3, xis4, e_ks, lk_k, lk_c, List.lookup_nil, gt_c, vi_i, k1_n, k1_c, k2_n, k2_c, ar_n, ar_c, pk_n, pk_c, rm_0, rm_1, rm_2, rm_3, rm_4, rm_5, rc_9, rcs, fvs, rf_s, rf_n, isI_i, isL_l, isR_r, isR_n, isR_q, ct_i, ct_l, ct_r, ct_n, ct_q, tFs, tCs, tKs, tJs, tSs, e_nf, lgs, ↓reduceIte, true_and, and_true, false_and, and_false, or_true, true_or, false_or, or_false, Nat.reduceAdd, Nat.reduceEqDiff, Nat.reduceDiv, Nat.reduceLT, Nat.reduceLeDiff, Nat.zero_add, reduceCtorEq, Bool.false_eq_true, Option.toList_some, Option.toList_none, List.cons_append, List.nil_append, not_true_eq_false, not_false_eq_true, Nat.sub_zero, dsX7_has, jsX7_has, h0, r226, k226, l226, c1, c2, c3, c4, ile, l8t, e4, e5, hL, hcan]
      by_cases c : S.2.1 kk = v <;> simp [c] at hq ⊢ <;> exact hq
    · refine e_g2 hG [] 60 ?_
      simp only [e_wp_s, Option.getD_some, Option.isSome_some, Option.isSome_none, xis0, xis1, xis2, xis3, xis4, e_ks, lk_k, lk_c, List.lookup_nil, gt_c, vi_i, k1_n, k1_c, k2_n, k2_c, ar_n, ar_c, pk_n, pk_c, rm_0, rm_1, rm_2, rm_3, rm_4, rm_5, rc_9, rcs, fvs, rf_s, rf_n, isI_i, isL_l, isR_r, isR_n, isR_q, ct_i, ct_l, ct_r, ct_n, ct_q, tFs, tCs, tKs, tJs, tSs, e_nf, lgs, ↓reduceIte, true_and, and_true, false_and, and_false, or_true, true_or, false_or, or_false, Nat.reduceAdd, Nat.reduceEqDiff, Nat.reduceDiv, Nat.reduceLT, Nat.reduceLeDiff, Nat.zero_add, reduceCtorEq, Bool.false_eq_true, Option.toList_some, Option.toList_none, List.cons_append, List.nil_append, not_true_eq_false, not_false_eq_true, Nat.sub_zero, dsX7_has, jsX7_has, c1, c2, c3, c4, ile]
      simpa [c4] using hq
  · refine e_g2 hG [] 60 ?_
    simp only [e_wp_s, Option.getD_some, Option.isSome_some, Option.isSome_none, xis0, xis1, xis2, xis3, xis4, e_ks, lk_k, lk_c, List.lookup_nil, gt_c, vi_i, k1_n, k1_c, k2_n, k2_c, ar_n, ar_c, pk_n, pk_c, rm_0, rm_1, rm_2, rm_3, rm_4, rm_5, rc_9, rcs, fvs, rf_s, rf_n, isI_i, isL_l, isR_r, isR_n, isR_q, ct_i, ct_l, ct_r, ct_n, ct_q, tFs, tCs, tKs, tJs, tSs, e_nf, lgs, ↓reduceIte, true_and, and_true, false_and, and_false, or_true, true_or, false_or, or_false, Nat.reduceAdd, Nat.reduceEqDiff, Nat.reduceDiv, Nat.reduceLT, Nat.reduceLeDiff, Nat.zero_add, reduceCtorEq, Bool.false_eq_true, Option.toList_some, Option.toList_none, List.cons_append, List.nil_append, not_true_eq_false, not_false_eq_true, Nat.sub_zero, dsX7_has, jsX7_has, c1, c2, ile]
    have hb : (decide (¬ v < 0 ∧ v < 16) && decide ((if ¬ key < 0 ∧ key < 8 then S.2.1 key.toNatClampNeg else -1) = v)) = false := by
      rw [if_neg (fun z => c2 z.2), Bool.and_eq_false_iff]
      by_cases c : ¬ v < 0 ∧ v < 16
      · exact Or.inr (decide_eq_false (fun z => c.1 (by rw [← z]; decide)))
      · exact Or.inl (decide_eq_false c)
    rw [hb] at hq
    simpa using hq
def csX7_isValue : CS := cs_0
theorem csoX7_isValue : ∀ op x na cl sp, csX7_isValue op x = some (na, cl, sp) → CallOK 7 0 0 op x na cl sp := cs_0_ok
def sp_X7_isValue : SP := fun as M k n Q => match as with
  | [.ref m, .int i, .long v] => ∃ A s, MS A M m ∧ s < 8 ∧ i = nI s ∧ Q (some (.int (isVd (aI M (A 225) s) v))) M k n
  | _ => False
theorem okX7_isValue : OkX7_isValue sp_X7_isValue := by
  refine inX7_isValue csoX7_isValue ?_
  intro as M k n Q hsp
  unfold sp_X7_isValue at hsp
  split at hsp
  rotate_left
  · exact hsp.elim
  rename_i m i v
  obtain ⟨A, s, hM, hs, rfl, hq⟩ := hsp
  have h0 := hM.1
  obtain ⟨r225, k225, l225⟩ : mR M 225 m = some (A 225) ∧ mK M (A 225) = 9 ∧ mN M (A 225) = 8 := hM.2 225 rfl
  have e2 : (nI s).toNatClampNeg = s := nI_clamp (by omega)
  have e3 : vp_in (nI s) 8 := vp_in_nI hs (by decide)
  refine ⟨0, 0, Nat.zero_le _, Nat.zero_le _, Nat.le_of_ble_eq_true rfl, fun G hG => ?_⟩
  refine e_g2 hG [] 60 ?_
  simp only [e_wp_s, Option.getD_some, Option.isSome_some, Option.isSome_none, xis0, xis1, xis2, xis3, xis4, e_ks, lk_k, lk_c, List.lookup_nil, gt_c, vi_i, k1_n, k1_c, k2_n, k2_c, ar_n, ar_c, pk_n, pk_c, rm_0, rm_1, rm_2, rm_3, rm_4, rm_5, rc_9, rcs, fvs, rf_s, rf_n, isI_i, isL_l, isR_r, isR_n, isR_q, ct_i, ct_l, ct_r, ct_n, ct_q, tFs, tCs, tKs, tJs, tSs, e_nf, lgs, ↓reduceIte, true_and, and_true, false_and, and_false, or_true, true_or, false_or, or_false, Nat.reduceAdd, Nat.reduceEqDiff, Nat.reduceDiv, Nat.reduceLT, Nat.reduceLeDiff, Nat.zero_add, reduceCtorEq, Bool.false_eq_true, Option.toList_some, Option.toList_none, List.cons_append, List.nil_append, not_true_eq_false, not_false_eq_true, Nat.sub_zero, dsX7_isValue, jsX7_isValue, h0, r225, k225, l225, e2, e3]
  unfold isVd at hq
  generalize aI M (A 225) s = kd at *
  by_cases c1 : v < -1000000000000
  · have a0 : ¬ v = 0 := fun e => by rw [e] at c1; exact absurd c1 (by decide)
    have a1 : ¬ v = 1 := fun e => by rw [e] at c1; exact absurd c1 (by decide)
    simp [c1, a0, a1] at hq ⊢
    exact hq
  · by_cases c2 : 1000000000000 < v
    · have a0 : ¬ v = 0 := fun e => by rw [e] at c2; exact absurd c2 (by decide)
      have a1 : ¬ v = 1 := fun e => by rw [e] at c2; exact absurd c2 (by decide)
      simp [c1, c2, a0, a1] at hq ⊢
      exact hq
    · by_cases c3 : kd = 1
      · by_cases c4 : v = 0 <;> by_cases c5 : v = 1 <;> simp [c1, c2, c3, c4, c5] at hq ⊢ <;> exact hq
      · by_cases c4 : kd = 3 <;> by_cases c5 : v < 0 <;> simp [c1, c2, c3, c4, c5] at hq ⊢ <;> exact hq
