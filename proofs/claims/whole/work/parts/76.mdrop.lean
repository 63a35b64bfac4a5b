/-! the reference: drop -/
def dpS (t : Int32) : List SPN → Nat
  | [] => 0
  | x :: l => if t < x.2.1 then 0 else dpS t l + 1
def dpB (t : Int32) : List BLK → Nat
  | [] => 0
  | x :: l => if eT (enc x.1) < t then dpB t l + 1 else 0
theorem dpS_le (t : Int32) : ∀ l, dpS t l ≤ l.length
  | [] => Nat.le_refl _
  | x :: l => by
    rw [dpS, List.length_cons]
    have := dpS_le t l
    split <;> omega
theorem dpB_le (t : Int32) : ∀ l, dpB t l ≤ l.length
  | [] => Nat.le_refl _
  | x :: l => by
    rw [dpB, List.length_cons]
    have := dpB_le t l
    split <;> omega
def mDrp (S : SER) (t : Int32) : SER := (S.1, S.2.1, S.2.2.1.drop (dpS t S.2.2.1), S.2.2.2.1.drop (dpB t S.2.2.2.1), S.2.2.2.2.drop (lbl t S.2.2.2.2))
def mDrop (L : List SER) (i t : Int32) : Int32 × List SER := match ser L i with
  | none => (-1, L)
  | some S => (nI (dpS t S.2.2.1 + dpB t S.2.2.2.1), L.set i.toNatClampNeg (mDrp S t))
theorem drop_at {α : Type} {l : List α} {i : Nat} {x : α} (hx : l[i]? = some x) : l.drop i = x :: l.drop (i + 1) := by
  have hi := (List.getElem?_eq_some_iff.mp hx).1
  rw [List.drop_eq_getElem_cons hi]
  congr 1
  exact (List.getElem?_eq_some_iff.mp hx).2
theorem mpts_drop (bk : List BLK) (b : Nat) : mpts (bk.drop b) = (mpts bk).drop (mpts (bk.take b)).length := by
  conv => rhs; rw [← List.take_append_drop b bk, mpts_app, List.take_append_drop b bk]
  rw [List.drop_left]
abbrev FS7 : List Nat := [227, 228, 229, 230, 231, 232, 233, 234, 235, 236, 237, 238, 239, 240, 241, 242, 243, 244]
def csX7_drop : CS := (cs_c 0 103 2 7 sp_X7_isSeries (cs_c 0 194 3 7 sp_X7_lastTime (cs_c 0 115 3 7 sp_X7_start (cs_c 0 111 3 7 sp_X7_spot (cs_c 0 118 4 7 sp_X7_mask (cs_c 0 166 3 7 sp_X7_lateAt cs_0))))))
theorem csoX7_drop : ∀ op x na cl sp, csX7_drop op x = some (na, cl, sp) → CallOK 7 3 68 op x na cl sp := (cs_c_ok (caX7_drop_103 okX7_isSeries) (cs_c_ok (caX7_drop_194 okX7_lastTime) (cs_c_ok (caX7_drop_115 okX7_start) (cs_c_ok (caX7_drop_111 okX7_spot) (cs_c_ok (caX7_drop_118 okX7_mask) (cs_c_ok (caX7_drop_166 okX7_lateAt) cs_0_ok))))))
theorem xcX7_drop : (∀ (Q : QT) (G : GT) (pc : Nat) (L : LV) (a0 a1 : Value) (r : List Value) (M : HM) (k n : Nat), ex_i 7 8 1 false csX7_drop Q G (.invokevirtual 103) pc L (a1 :: a0 :: r) M k n = (e_rm r ∧ e_rc M 7 [a0, a1] ∧ sp_X7_isSeries [a0, a1] M k n (fun v M' k' n' => G (pc + 3) L (v.toList ++ r) M' k' n'))) ∧ (∀ (Q : QT) (G : GT) (pc : Nat) (L : LV) (a0 a1 a2 : Value) (r : List Value) (M : HM) (k n : Nat), ex_i 7 8 1 false csX7_drop Q G (.invokevirtual 194) pc L (a2 :: a1 :: a0 :: r) M k n = (e_rm r ∧ e_rc M 7 [a0, a1, a2] ∧ sp_X7_lastTime [a0, a1, a2] M k n (fun v M' k' n' => G (pc + 3) L (v.toList ++ r) M' k' n'))) ∧ (∀ (Q : QT) (G : GT) (pc : Nat) (L : LV) (a0 a1 a2 : Value) (r : List Value) (M : HM) (k n : Nat), ex_i 7 8 1 false csX7_drop Q G (.invokevirtual 115) pc L (a2 :: a1 :: a0 :: r) M k n = (e_rm r ∧ e_rc M 7 [a0, a1, a2] ∧ sp_X7_start [a0, a1, a2] M k n (fun v M' k' n' => G (pc + 3) L (v.toList ++ r) M' k' n'))) ∧ (∀ (Q : QT) (G : GT) (pc : Nat) (L : LV) (a0 a1 a2 : Value) (r : List Value) (M : HM) (k n : Nat), ex_i 7 8 1 false csX7_drop Q G (.invokevirtual 111) pc L (a2 :: a1 :: a0 :: r) M k n = (e_rm r ∧ e_rc M 7 [a0, a1, a2] ∧ sp_X7_spot [a0, a1, a2] M k n (fun v M' k' n' => G (pc + 3) L (v.toList ++ r) M' k' n'))) ∧ (∀ (Q : QT) (G : GT) (pc : Nat) (L : LV) (a0 a1 a2 a3 : Value) (r : List Value) (M : HM) (k n : Nat), ex_i 7 8 1 false csX7_drop Q G (.invokevirtual 118) pc L (a3 :: a2 :: a1 :: a0 :: r) M k n = (e_rm r ∧ e_rc M 7 [a0, a1, a2, a3] ∧ sp_X7_mask [a0, a1, a2, a3] M k n (fun v M' k' n' => G (pc + 3) L (v.toList ++ r) M' k' n'))) ∧ (∀ (Q : QT) (G : GT) (pc : Nat) (L : LV) (a0 a1 a2 : Value) (r : List Value) (M : HM) (k n : Nat), ex_i 7 8 1 false csX7_drop Q G (.invokevirtual 166) pc L (a2 :: a1 :: a0 :: r) M k n = (e_rm r ∧ e_rc M 7 [a0, a1, a2] ∧ sp_X7_lateAt [a0, a1, a2] M k n (fun v M' k' n' => G (pc + 3) L (v.toList ++ r) M' k' n'))) := ⟨(fun _ _ _ _ _ _ _ _ _ _ => xv0_2 rfl), (fun _ _ _ _ _ _ _ _ _ _ _ => xv0_3 rfl), (fun _ _ _ _ _ _ _ _ _ _ _ => xv0_3 rfl), (fun _ _ _ _ _ _ _ _ _ _ _ => xv0_3 rfl), (fun _ _ _ _ _ _ _ _ _ _ _ _ => xv0_4 rfl), (fun _ _ _ _ _ _ _ _ _ _ _ => xv0_3 rfl)⟩
def sp_X7_drop : SP := fun as M k n Q => match as with
  | [.ref m, .int i, .int t] => ∃ A O L z, MRp A O M m L z ∧ ∀ U, MRp A O U m (mDrop L i t).2 z → Fr (Ss m) O O M U → Q (some (.int (mDrop L i t).1)) U k n
  | _ => False
set_option maxHeartbeats 800000 in
set_option maxRecDepth 20000 in
theorem okX7_drop : OkX7_drop sp_X7_drop := by
  refine inX7_drop csoX7_drop ?_
  intro as M k n Q hsp
  unfold sp_X7_drop at hsp
  split at hsp
  rotate_left
  · exact hsp.elim
  rename_i m i t
  obtain ⟨A, O, L, z, hR, hq⟩ := hsp
  have hM := hR.1
  have hO := hR.2.1
  have h0 := hM.1
  refine ⟨0, 0, Nat.zero_le _, Nat.zero_le _, Nat.le_of_ble_eq_true rfl, fun G hG => ?_⟩
  unfold mDrop at hq
  rcases hR.at_ i with ⟨h1, h2⟩ | ⟨s, S, h1, rfl, h3, h4, hs, h6⟩
  · rw [h1] at hq
    refine e_g2 hG [] 40 ?_
    simp only [e_wp_s, Option.getD_some, Option.isSome_some, Option.isSome_none, xis0, xis1, xis2, xis3, xis4, e_ks, lk_k, lk_c, List.lookup_nil, gt_c, vi_i, k1_n, k1_c, k2_n, k2_c, ar_n, ar_c, pk_n, pk_c, rm_0, rm_1, rm_2, rm_3, rm_4, rm_5, rc_9, rcs, fvs, rf_s, rf_n, isI_i, isL_l, isR_r, isR_n, isR_q, ct_i, ct_l, ct_r, ct_n, ct_q, tFs, tCs, tKs, tJs, tSs, e_nf, lgs, ↓reduceIte, true_and, and_true, false_and, and_false, or_true, true_or, false_or, or_false, Nat.reduceAdd, Nat.reduceEqDiff, Nat.reduceDiv, Nat.reduceLT, Nat.reduceLeDiff, Nat.zero_add, reduceCtorEq, Bool.false_eq_true, Option.toList_some, Option.toList_none, List.cons_append, List.nil_append, not_true_eq_false, not_false_eq_true, Nat.sub_zero, dsX7_drop_0, dsX7_drop_1, dsX7_drop_2, jsX7_drop, xcX7_drop, h0, h2, ↓sp_X7_isSeries]
    exact hq M hR Fr.rf
  · simp only [h1, nI_clamp (show s < 2 ^ 31 by omega)] at hq
    have sc : (nI s).toNatClampNeg = s := nI_clamp (by omega)
    have sv : vp_in (nI s) 8 := vp_in_nI hs (by decide)
    obtain ⟨hH, hP, hB, hT, hSp⟩ := id h4
    have n227_228 : ¬ A 227 = A 228 := hO.ne (f := 227) (g := 228) rfl rfl (by decide)
    have n227_229 : ¬ A 227 = A 229 := hO.ne (f := 227) (g := 229) rfl rfl (by decide)
    have n227_230 : ¬ A 227 = A 230 := hO.ne (f := 227) (g := 230) rfl rfl (by decide)
    have n227_231 : ¬ A 227 = A 231 := hO.ne (f := 227) (g := 231) rfl rfl (by decide)
    have n227_232 : ¬ A 227 = A 232 := hO.ne (f := 227) (g := 232) rfl rfl (by decide)
    have n227_233 : ¬ A 227 = A 233 := hO.ne (f := 227) (g := 233) rfl rfl (by decide)
    have n227_234 : ¬ A 227 = A 234 := hO.ne (f := 227) (g := 234) rfl rfl (by decide)
    have n227_235 : ¬ A 227 = A 235 := hO.ne (f := 227) (g := 235) rfl rfl (by decide)
    have n227_236 : ¬ A 227 = A 236 := hO.ne (f := 227) (g := 236) rfl rfl (by decide)
    have n228_227 : ¬ A 228 = A 227 := hO.ne (f := 228) (g := 227) rfl rfl (by decide)
    have n228_229 : ¬ A 228 = A 229 := hO.ne (f := 228) (g := 229) rfl rfl (by decide)
    have n228_230 : ¬ A 228 = A 230 := hO.ne (f := 228) (g := 230) rfl rfl (by decide)
    have n228_231 : ¬ A 228 = A 231 := hO.ne (f := 228) (g := 231) rfl rfl (by decide)
    have n228_232 : ¬ A 228 = A 232 := hO.ne (f := 228) (g := 232) rfl rfl (by decide)
    have n228_233 : ¬ A 228 = A 233 := hO.ne (f := 228) (g := 233) rfl rfl (by decide)
    have n228_234 : ¬ A 228 = A 234 := hO.ne (f := 228) (g := 234) rfl rfl (by decide)
    have n228_235 : ¬ A 228 = A 235 := hO.ne (f := 228) (g := 235) rfl rfl (by decide)
    have n228_236 : ¬ A 228 = A 236 := hO.ne (f := 228) (g := 236) rfl rfl (by decide)
    have n229_227 : ¬ A 229 = A 227 := hO.ne (f := 229) (g := 227) rfl rfl (by decide)
    have n229_228 : ¬ A 229 = A 228 := hO.ne (f := 229) (g := 228) rfl rfl (by decide)
    have n229_230 : ¬ A 229 = A 230 := hO.ne (f := 229) (g := 230) rfl rfl (by decide)
    have n229_231 : ¬ A 229 = A 231 := hO.ne (f := 229) (g := 231) rfl rfl (by decide)
    have n229_232 : ¬ A 229 = A 232 := hO.ne (f := 229) (g := 232) rfl rfl (by decide)
    have n229_233 : ¬ A 229 = A 233 := hO.ne (f := 229) (g := 233) rfl rfl (by decide)
    have n229_234 : ¬ A 229 = A 234 := hO.ne (f := 229) (g := 234) rfl rfl (by decide)
    have n229_235 : ¬ A 229 = A 235 := hO.ne (f := 229) (g := 235) rfl rfl (by decide)
    have n229_236 : ¬ A 229 = A 236 := hO.ne (f := 229) (g := 236) rfl rfl (by decide)
    have n230_227 : ¬ A 230 = A 227 := hO.ne (f := 230) (g := 227) rfl rfl (by decide)
    have n230_228 : ¬ A 230 = A 228 := hO.ne (f := 230) (g := 228) rfl rfl (by decide)
    have n230_229 : ¬ A 230 = A 229 := hO.ne (f := 230) (g := 229) rfl rfl (by decide)
    have n230_231 : ¬ A 230 = A 231 := hO.ne (f := 230) (g := 231) rfl rfl (by decide)
    have n230_232 : ¬ A 230 = A 232 := hO.ne (f := 230) (g := 232) rfl rfl (by decide)
    have n230_233 : ¬ A 230 = A 233 := hO.ne (f := 230) (g := 233) rfl rfl (by decide)
    have n230_234 : ¬ A 230 = A 234 := hO.ne (f := 230) (g := 234) rfl rfl (by decide)
    have n230_235 : ¬ A 230 = A 235 := hO.ne (f := 230) (g := 235) rfl rfl (by decide)
    have n230_236 : ¬ A 230 = A 236 := hO.ne (f := 230) (g := 236) rfl rfl (by decide)
    have n231_227 : ¬ A 231 = A 227 := hO.ne (f := 231) (g := 227) rfl rfl (by decide)
    have n231_228 : ¬ A 231 = A 228 := hO.ne (f := 231) (g := 228) rfl rfl (by decide)
    have n231_229 : ¬ A 231 = A 229 := hO.ne (f := 231) (g := 229) rfl rfl (by decide)
    have n231_230 : ¬ A 231 = A 230 := hO.ne (f := 231) (g := 230) rfl rfl (by decide)
    have n231_232 : ¬ A 231 = A 232 := hO.ne (f := 231) (g := 232) rfl rfl (by decide)
    have n231_233 : ¬ A 231 = A 233 := hO.ne (f := 231) (g := 233) rfl rfl (by decide)
    have n231_234 : ¬ A 231 = A 234 := hO.ne (f := 231) (g := 234) rfl rfl (by decide)
    have n231_235 : ¬ A 231 = A 235 := hO.ne (f := 231) (g := 235) rfl rfl (by decide)
    have n231_236 : ¬ A 231 = A 236 := hO.ne (f := 231) (g := 236) rfl rfl (by decide)
    have n232_227 : ¬ A 232 = A 227 := hO.ne (f := 232) (g := 227) rfl rfl (by decide)
    have n232_228 : ¬ A 232 = A 228 := hO.ne (f := 232) (g := 228) rfl rfl (by decide)
    have n232_229 : ¬ A 232 = A 229 := hO.ne (f := 232) (g := 229) rfl rfl (by decide)
    have n232_230 : ¬ A 232 = A 230 := hO.ne (f := 232) (g := 230) rfl rfl (by decide)
    have n232_231 : ¬ A 232 = A 231 := hO.ne (f := 232) (g := 231) rfl rfl (by decide)
    have n232_233 : ¬ A 232 = A 233 := hO.ne (f := 232) (g := 233) rfl rfl (by decide)
    have n232_234 : ¬ A 232 = A 234 := hO.ne (f := 232) (g := 234) rfl rfl (by decide)
    have n232_235 : ¬ A 232 = A 235 := hO.ne (f := 232) (g := 235) rfl rfl (by decide)
    have n232_236 : ¬ A 232 = A 236 := hO.ne (f := 232) (g := 236) rfl rfl (by decide)
    have n233_227 : ¬ A 233 = A 227 := hO.ne (f := 233) (g := 227) rfl rfl (by decide)
    have n233_228 : ¬ A 233 = A 228 := hO.ne (f := 233) (g := 228) rfl rfl (by decide)
    have n233_229 : ¬ A 233 = A 229 := hO.ne (f := 233) (g := 229) rfl rfl (by decide)
    have n233_230 : ¬ A 233 = A 230 := hO.ne (f := 233) (g := 230) rfl rfl (by decide)
    have n233_231 : ¬ A 233 = A 231 := hO.ne (f := 233) (g := 231) rfl rfl (by decide)
    have n233_232 : ¬ A 233 = A 232 := hO.ne (f := 233) (g := 232) rfl rfl (by decide)
    have n233_234 : ¬ A 233 = A 234 := hO.ne (f := 233) (g := 234) rfl rfl (by decide)
    have n233_235 : ¬ A 233 = A 235 := hO.ne (f := 233) (g := 235) rfl rfl (by decide)
    have n233_236 : ¬ A 233 = A 236 := hO.ne (f := 233) (g := 236) rfl rfl (by decide)
    have n234_227 : ¬ A 234 = A 227 := hO.ne (f := 234) (g := 227) rfl rfl (by decide)
    have n234_228 : ¬ A 234 = A 228 := hO.ne (f := 234) (g := 228) rfl rfl (by decide)
    have n234_229 : ¬ A 234 = A 229 := hO.ne (f := 234) (g := 229) rfl rfl (by decide)
    have n234_230 : ¬ A 234 = A 230 := hO.ne (f := 234) (g := 230) rfl rfl (by decide)
    have n234_231 : ¬ A 234 = A 231 := hO.ne (f := 234) (g := 231) rfl rfl (by decide)
    have n234_232 : ¬ A 234 = A 232 := hO.ne (f := 234) (g := 232) rfl rfl (by decide)
    have n234_233 : ¬ A 234 = A 233 := hO.ne (f := 234) (g := 233) rfl rfl (by decide)
    have n234_235 : ¬ A 234 = A 235 := hO.ne (f := 234) (g := 235) rfl rfl (by decide)
    have n234_236 : ¬ A 234 = A 236 := hO.ne (f := 234) (g := 236) rfl rfl (by decide)
    have n235_227 : ¬ A 235 = A 227 := hO.ne (f := 235) (g := 227) rfl rfl (by decide)
    have n235_228 : ¬ A 235 = A 228 := hO.ne (f := 235) (g := 228) rfl rfl (by decide)
    have n235_229 : ¬ A 235 = A 229 := hO.ne (f := 235) (g := 229) rfl rfl (by decide)
    have n235_230 : ¬ A 235 = A 230 := hO.ne (f := 235) (g := 230) rfl rfl (by decide)
    have n235_231 : ¬ A 235 = A 231 := hO.ne (f := 235) (g := 231) rfl rfl (by decide)
    have n235_232 : ¬ A 235 = A 232 := hO.ne (f := 235) (g := 232) rfl rfl (by decide)
    have n235_233 : ¬ A 235 = A 233 := hO.ne (f := 235) (g := 233) rfl rfl (by decide)
    have n235_234 : ¬ A 235 = A 234 := hO.ne (f := 235) (g := 234) rfl rfl (by decide)
    have n235_236 : ¬ A 235 = A 236 := hO.ne (f := 235) (g := 236) rfl rfl (by decide)
    have n236_227 : ¬ A 236 = A 227 := hO.ne (f := 236) (g := 227) rfl rfl (by decide)
    have n236_228 : ¬ A 236 = A 228 := hO.ne (f := 236) (g := 228) rfl rfl (by decide)
    have n236_229 : ¬ A 236 = A 229 := hO.ne (f := 236) (g := 229) rfl rfl (by decide)
    have n236_230 : ¬ A 236 = A 230 := hO.ne (f := 236) (g := 230) rfl rfl (by decide)
    have n236_231 : ¬ A 236 = A 231 := hO.ne (f := 236) (g := 231) rfl rfl (by decide)
    have n236_232 : ¬ A 236 = A 232 := hO.ne (f := 236) (g := 232) rfl rfl (by decide)
    have n236_233 : ¬ A 236 = A 233 := hO.ne (f := 236) (g := 233) rfl rfl (by decide)
    have n236_234 : ¬ A 236 = A 234 := hO.ne (f := 236) (g := 234) rfl rfl (by decide)
    have n236_235 : ¬ A 236 = A 235 := hO.ne (f := 236) (g := 235) rfl rfl (by decide)
    have p300 := hP.2.1
    have l40 := hT.2.1
    have b300 := hB.2.1
    have s60 := hSp.2.1
    unfold mDrp at hq
    generalize hlt : S.2.2.2.2 = lt at *
    generalize hbk : S.2.2.2.1 = bk at *
    generalize hsp : S.2.2.1 = sp at *
    have hn := dpS_le t sp
    have hb := dpB_le t bk
    have hg := lbl_le t lt
    generalize hnn : dpS t sp = nn at *
    generalize hbb : dpB t bk = bb at *
    -- late points
    have late : ∀ U, MC O A m FS7 M U → MI A s M U → mSp A U s (sp.drop nn) → mP A U s (mpts (bk.drop bb)) → mB A U s (bk.drop bb) → mT A U s lt → G 451 [(0, .ref m), (1, .int (nI s)), (2, .int t), (3, .int (nI nn)), (4, .int (nI bb))] [] U 0 0 := by
      intro U hC hI u1 u2 u3 u4
      have hMU := hC.ms hM
      have g0 := hMU.1
      obtain ⟨r229, k229, l229⟩ : mR U 229 m = some (A 229) ∧ mK U (A 229) = 9 ∧ mN U (A 229) = 8 := hMU.2 229 rfl
      have ul := u4.1
      refine e_g2 hG [(457, [0, 1, 2, 3, 4])] 60 ?_
      simp only [e_wp_s, Option.getD_some, Option.isSome_some, Option.isSome_none, xis0, xis1, xis2, xis3, xis4, e_ks, lk_k, lk_c, List.lookup_nil, gt_c, vi_i, k1_n, k1_c, k2_n, k2_c, ar_n, ar_c, pk_n, pk_c, rm_0, rm_1, rm_2, rm_3, rm_4, rm_5, rc_9, rcs, fvs, rf_s, rf_n, isI_i, isL_l, isR_r, isR_n, isR_q, ct_i, ct_l, ct_r, ct_n, ct_q, tFs, tCs, tKs, tJs, tSs, e_nf, lgs, ↓reduceIte, true_and, and_true, false_and, and_false, or_true, true_or, false_or, or_false, Nat.reduceAdd, Nat.reduceEqDiff, Nat.reduceDiv, Nat.reduceLT, Nat.reduceLeDiff, Nat.zero_add, reduceCtorEq, Bool.false_eq_true, Option.toList_some, Option.toList_none, List.cons_append, List.nil_append, not_true_eq_false, not_false_eq_true, Nat.sub_zero, dsX7_drop_0, dsX7_drop_1, dsX7_drop_2, jsX7_drop, xcX7_drop, g0]
      refine ⟨A, s, lt, hMU, hs, u4, rfl, ?_⟩
      generalize hgg : lbl t lt = g at *
      have loop : ∀ d j V, j + d = lt.length - g → MC O A m [229, 233, 235] U V → MI A s U V → aI V (A 229) = aI U (A 229) → (∀ q, aI V (A 233) q = if 50 * s ≤ q ∧ q < 50 * s + j then aI U (A 233) (q + g) else aI U (A 233) q) → (∀ q, aL V (A 235) q = if 50 * s ≤ q ∧ q < 50 * s + j then aL U (A 235) (q + g) else aL U (A 235) q) → G 468 [(0, .ref m), (1, .int (nI s)), (3, .int (nI nn)), (4, .int (nI bb)), (6, .int (nI g)), (7, .int (nI (50 * s + g + j)))] [] V 0 0 := by
        intro d
        induction d with
        | zero =>
          intro j V hj hCV hIV v9 v3 v5
          have hMV := hCV.ms hMU
          have y0 := hMV.1
          obtain ⟨rv229, kv229, lv229⟩ : mR V 229 m = some (A 229) ∧ mK V (A 229) = 9 ∧ mN V (A 229) = 8 := hMV.2 229 rfl
          have vl : aI V (A 229) s = nI lt.length := by rw [v9]; exact ul
          have e1 : ¬ nI (50 * s + g + j) < nI (50 * s + lt.length) := nI_nlt (by omega) (by omega)
          have e2 : nI lt.length - nI g = nI (lt.length - g) := nI_sub hg
          refine e_g2 hG [] 60 ?_
          simp only [e_wp_s, Option.getD_some, Option.isSome_some, Option.isSome_none, xis0, xis1, xis2, xis3, xis4, e_ks, lk_k, lk_c, List.lookup_nil, gt_c, vi_i, k1_n, k1_c, k2_n, k2_c, ar_n, ar_c, pk_n, pk_c, rm_0, rm_1, rm_2, rm_3, rm_4, rm_5, rc_9, rcs, fvs, rf_s, rf_n, isI_i, isL_l, isR_r, isR_n, isR_q, ct_i, ct_l, ct_r, ct_n, ct_q, tFs, tCs, tKs, tJs, tSs, e_nf, lgs, ↓reduceIte, true_and, and_true, false_and, and_false, or_true, true_or, false_or, or_false, Nat.reduceAdd, Nat.reduceEqDiff, Nat.reduceDiv, Nat.reduceLT, Nat.reduceLeDiff, Nat.zero_add, reduceCtorEq, Bool.false_eq_true, Option.toList_some, Option.toList_none, List.cons_append, List.nil_append, not_true_eq_false, not_false_eq_true, Nat.sub_zero, dsX7_drop_0, dsX7_drop_1, dsX7_drop_2, jsX7_drop, xcX7_drop, y0, rv229, kv229, lv229, sc, sv, vl, l50, e1, e2, nI_add]
          have hC3 : MC O A m [229, 233, 235] U (tI V (A 229) s (nI (lt.length - g))) := MC.tI hCV hO (by decide) rfl
          have hC4 := hC.tr (hC3.mono (gs := FS7) (fun f hf => by revert hf; revert f; decide))
          have hI4 := hI.tr (MI.tI (f := 229) (i := s) hIV hO rfl (Or.inl (Nat.div_one s)) (v := nI (lt.length - g)))
          refine hq _ (hR.mut h3 hC4 hI4 (by decide) ⟨hC4.mH (by decide) hH, hC3.mP (by decide) u2, hC3.mB (by decide) u3, ⟨?_, ?_, ?_⟩, hC3.mSp (fun f h1 h2 => by intro hf; simp at hf; omega) (by decide) u1⟩) hC4.2.2.2.1
          · simp only [haI, and_self, if_true]
            show _ = nI (lt.drop g).length
            rw [List.length_drop]
          · show (lt.drop g).length ≤ 40
            rw [List.length_drop]; omega
          · show rdf _ _ (lt.drop g).length = lt.drop g
            refine rdf_eq (fun q y hy => ?_)
            have hql := (List.getElem?_eq_some_iff.mp hy).1
            rw [List.length_drop] at hql
            rw [List.getElem?_drop] at hy
            obtain ⟨w1, w2, -⟩ := mT_at u4 hy
            simp only [haI, haL, n233_229, false_and, if_false]
            rw [v3, v5, if_pos (by omega), if_pos (by omega), show 50 * s + q + g = 50 * s + (g + q) by omega, w1, w2]
        | succ d ih =>
          intro j V hj hCV hIV v9 v3 v5
          have hMV := hCV.ms hMU
          have y0 := hMV.1
          obtain ⟨rv229, kv229, lv229⟩ : mR V 229 m = some (A 229) ∧ mK V (A 229) = 9 ∧ mN V (A 229) = 8 := hMV.2 229 rfl
          obtain ⟨rv233, kv233, lv233⟩ : mR V 233 m = some (A 233) ∧ mK V (A 233) = 9 ∧ mN V (A 233) = 400 := hMV.2 233 rfl
          obtain ⟨rv235, kv235, lv235⟩ : mR V 235 m = some (A 235) ∧ mK V (A 235) = 10 ∧ mN V (A 235) = 400 := hMV.2 235 rfl
          have vl : aI V (A 229) s = nI lt.length := by rw [v9]; exact ul
          have e1 : nI (50 * s + g + j) < nI (50 * s + lt.length) := nI_lt (by omega) (by omega)
          have e2 : nI (50 * s + g + j) - nI g = nI (50 * s + j) := by rw [nI_sub (by omega)]; congr 1; omega
          have i1 : (nI (50 * s + g + j)).toNatClampNeg = 50 * s + g + j := nI_clamp (by omega)
          have i2 : vp_in (nI (50 * s + g + j)) 400 := vp_in_nI (by omega) (by decide)
          have i3 : (nI (50 * s + j)).toNatClampNeg = 50 * s + j := nI_clamp (by omega)
          have i4 : vp_in (nI (50 * s + j)) 400 := vp_in_nI (by omega) (by decide)
          refine e_g2 hG [(468, [0, 1, 3, 4, 6, 7])] 60 ?_
          simp only [e_wp_s, Option.getD_some, Option.isSome_some, Option.isSome_none, xis0, xis1, xis2, xis3, xis4, e_ks, lk_k, lk_c, List.lookup_nil, gt_c, vi_i, k1_n, k1_c, k2_n, k2_c, ar_n, ar_c, pk_n, pk_c, rm_0, rm_1, rm_2, rm_3, rm_4, rm_5, rc_9, rcs, fvs, rf_s, rf_n, isI_i, isL_l, isR_r, isR_n, isR_q, ct_i, ct_l, ct_r, ct_n, ct_q, tFs, tCs, tKs, tJs, tSs, e_nf, lgs, ↓reduceIte, true_and, and_true, false_and, and_false, or_true, true_or, false_or, or_false, Nat.reduceAdd, Nat.reduceEqDiff, Nat.reduceDiv, Nat.reduceLT, Nat.reduceLeDiff, Nat.zero_add, reduceCtorEq, Bool.false_eq_true, Option.toList_some, Option.toList_none, List.cons_append, List.nil_append, not_true_eq_false, not_false_eq_true, Nat.sub_zero, dsX7_drop_0, dsX7_drop_1, dsX7_drop_2, jsX7_drop, xcX7_drop, y0, rv229, kv229, lv229, rv233, kv233, lv233, rv235, kv235, lv235, sc, sv, vl, l50, e1, e2, i1, i2, i3, i4, nI_add, nI_1, hmK, hmN, hmI, hmL, hmR, haI, haL, haR]
          refine ih (j + 1) _ (by omega) (MC.tL (MC.tI hCV hO (by decide) rfl) hO (by decide) rfl) (MI.tL (MI.tI hIV hO rfl (Or.inl (dq 50 s _ (by omega)))) hO rfl (Or.inl (dq 50 s _ (by omega)))) ?_ (fun q => ?_) (fun q => ?_)
          · funext q; simp only [haI, n229_233, false_and, if_false]; rw [v9]
          · simp only [haI, true_and]
            by_cases c : q = 50 * s + j
            · rw [if_pos c, v3, if_neg (by omega), if_pos (by omega), c]; congr 1; omega
            · rw [if_neg c, v3]
              by_cases c2 : 50 * s ≤ q ∧ q < 50 * s + j
              · rw [if_pos c2, if_pos (by omega)]
              · rw [if_neg c2, if_neg (by omega)]
          · simp only [haL, true_and]
            by_cases c : q = 50 * s + j
            · rw [if_pos c, v5, if_neg (by omega), if_pos (by omega), c]; congr 1; omega
            · rw [if_neg c, v5]
              by_cases c2 : 50 * s ≤ q ∧ q < 50 * s + j
              · rw [if_pos c2, if_pos (by omega)]
              · rw [if_neg c2, if_neg (by omega)]
      refine e_g2 hG [(468, [0, 1, 3, 4, 6, 7])] 60 ?_
      simp only [e_wp_s, Option.getD_some, Option.isSome_some, Option.isSome_none, xis0, xis1, xis2, xis3, xis4, e_ks, lk_k, lk_c, List.lookup_nil, gt_c, vi_i, k1_n, k1_c, k2_n, k2_c, ar_n, ar_c, pk_n, pk_c, rm_0, rm_1, rm_2, rm_3, rm_4, rm_5, rc_9, rcs, fvs, rf_s, rf_n, isI_i, isL_l, isR_r, isR_n, isR_q, ct_i, ct_l, ct_r, ct_n, ct_q, tFs, tCs, tKs, tJs, tSs, e_nf, lgs, ↓reduceIte, true_and, and_true, false_and, and_false, or_true, true_or, false_or, or_false, Nat.reduceAdd, Nat.reduceEqDiff, Nat.reduceDiv, Nat.reduceLT, Nat.reduceLeDiff, Nat.zero_add, reduceCtorEq, Bool.false_eq_true, Option.toList_some, Option.toList_none, List.cons_append, List.nil_append, not_true_eq_false, not_false_eq_true, Nat.sub_zero, dsX7_drop_0, dsX7_drop_1, dsX7_drop_2, jsX7_drop, xcX7_drop, l50]
      exact loop (lt.length - g) 0 U (by omega) MC.rf MI.rf rfl (fun q => by rw [if_neg (by omega)]) (fun q => by rw [if_neg (by omega)])
    -- blocks
    have blks : ∀ U, MC O A m FS7 M U → MI A s M U → mSp A U s (sp.drop nn) → mP A U s (mpts (bk.drop bb)) → mB A U s bk → mT A U s lt → G 344 [(0, .ref m), (1, .int (nI s)), (2, .int t), (3, .int (nI nn)), (4, .int (nI bb))] [] U 0 0 := by
      intro U hC hI u1 u2 u3 u4
      have hMU := hC.ms hM
      have loop : ∀ d j V, j + d = bk.length - bb → MC O A m [228, 232, 236] U V → MI A s U V → aI V (A 228) s = nI bk.length → (∀ q x, j ≤ q → bk[q]? = some x → aI V (A 232) (320 * s + q) = nI x.1.length ∧ ∀ k, k < 256 → aI V (A 236) (256 * (320 * s + q) + k) = x.2 k) → (∀ q x, q < j → bk[q + bb]? = some x → aI V (A 232) (320 * s + q) = nI x.1.length ∧ ∀ k, k < 256 → aI V (A 236) (256 * (320 * s + q) + k) = x.2 k) → G 348 [(0, .ref m), (1, .int (nI s)), (2, .int t), (3, .int (nI nn)), (4, .int (nI bb)), (6, .int (nI (bb + j)))] [] V 0 0 := by
        intro d
        induction d with
        | zero =>
          intro j V hj hCV hIV v8 va vb
          have hMV := hCV.ms hMU
          have y0 := hMV.1
          obtain ⟨rv228, kv228, lv228⟩ : mR V 228 m = some (A 228) ∧ mK V (A 228) = 9 ∧ mN V (A 228) = 8 := hMV.2 228 rfl
          have e1 : ¬ nI (bb + j) < nI bk.length := nI_nlt (by omega) (by omega)
          have e2 : nI bk.length - nI bb = nI (bk.length - bb) := nI_sub hb
          have hC3 : MC O A m [228, 232, 236] U (tI V (A 228) s (nI (bk.length - bb))) := MC.tI hCV hO (by decide) rfl
          have hC4 := hC.tr (hC3.mono (gs := FS7) (fun f hf => by revert hf; revert f; decide))
          have hI4 := hI.tr (MI.tI (f := 228) (i := s) hIV hO rfl (Or.inl (Nat.div_one s)) (v := nI (bk.length - bb)))
          refine e_g2 hG [(451, [0, 1, 2, 3, 4])] 60 ?_
          simp only [e_wp_s, Option.getD_some, Option.isSome_some, Option.isSome_none, xis0, xis1, xis2, xis3, xis4, e_ks, lk_k, lk_c, List.lookup_nil, gt_c, vi_i, k1_n, k1_c, k2_n, k2_c, ar_n, ar_c, pk_n, pk_c, rm_0, rm_1, rm_2, rm_3, rm_4, rm_5, rc_9, rcs, fvs, rf_s, rf_n, isI_i, isL_l, isR_r, isR_n, isR_q, ct_i, ct_l, ct_r, ct_n, ct_q, tFs, tCs, tKs, tJs, tSs, e_nf, lgs, ↓reduceIte, true_and, and_true, false_and, and_false, or_true, true_or, false_or, or_false, Nat.reduceAdd, Nat.reduceEqDiff, Nat.reduceDiv, Nat.reduceLT, Nat.reduceLeDiff, Nat.zero_add, reduceCtorEq, Bool.false_eq_true, Option.toList_some, Option.toList_none, List.cons_append, List.nil_append, not_true_eq_false, not_false_eq_true, Nat.sub_zero, dsX7_drop_0, dsX7_drop_1, dsX7_drop_2, jsX7_drop, xcX7_drop, y0, rv228, kv228, lv228, sc, sv, v8, e1, e2]
          refine late _ hC4 hI4 (hC3.mSp (fun f h1 h2 => by intro hf; simp at hf; omega) (by decide) u1) (hC3.mP (by decide) u2) ⟨?_, ?_, fun q x hx => ?_, fun x hx => u3.2.2.2 x (List.mem_of_mem_drop hx)⟩ (hC3.mT (by decide) u4)
          · simp only [haI, and_self, if_true]; rw [List.length_drop]
          · rw [List.length_drop]; omega
          · have hql := (List.getElem?_eq_some_iff.mp hx).1
            rw [List.length_drop] at hql
            rw [List.getElem?_drop] at hx
            simp only [haI, n232_228, n236_228, false_and, if_false]
            exact vb q x (by omega) (by rw [Nat.add_comm q bb]; exact hx)
        | succ d ih =>
          intro j V hj hCV hIV v8 va vb
          have hMV := hCV.ms hMU
          have y0 := hMV.1
          obtain ⟨rv228, kv228, lv228⟩ : mR V 228 m = some (A 228) ∧ mK V (A 228) = 9 ∧ mN V (A 228) = 8 := hMV.2 228 rfl
          obtain ⟨rv232, kv232, lv232⟩ : mR V 232 m = some (A 232) ∧ mK V (A 232) = 9 ∧ mN V (A 232) = 2560 := hMV.2 232 rfl
          have e1 : nI (bb + j) < nI bk.length := nI_lt (by omega) (by omega)
          have e2 : nI (bb + j) - nI bb = nI j := by rw [nI_sub (by omega)]; congr 1; omega
          obtain ⟨x, hx⟩ : ∃ x, bk[bb + j]? = some x := ⟨_, List.getElem?_eq_getElem (by omega)⟩
          obtain ⟨xa, xb⟩ := va (bb + j) x (by omega) hx
          have i1 : (nI (320 * s + (bb + j))).toNatClampNeg = 320 * s + (bb + j) := nI_clamp (by omega)
          have i2 : vp_in (nI (320 * s + (bb + j))) 2560 := vp_in_nI (by omega) (by decide)
          have i3 : (nI (320 * s + j)).toNatClampNeg = 320 * s + j := nI_clamp (by omega)
          have i4 : vp_in (nI (320 * s + j)) 2560 := vp_in_nI (by omega) (by decide)
          have inner : ∀ e k W, k + e = 256 → MC O A m [228, 232, 236] U W → MI A s U W → aI W (A 228) s = nI bk.length → (∀ q y, j < q → bk[q]? = some y → aI W (A 232) (320 * s + q) = nI y.1.length ∧ ∀ k, k < 256 → aI W (A 236) (256 * (320 * s + q) + k) = y.2 k) → (∀ q y, q < j → bk[q + bb]? = some y → aI W (A 232) (320 * s + q) = nI y.1.length ∧ ∀ k, k < 256 → aI W (A 236) (256 * (320 * s + q) + k) = y.2 k) → aI W (A 232) (320 * s + j) = nI x.1.length → (∀ k, k < 256 → aI W (A 236) (256 * (320 * s + (bb + j)) + k) = x.2 k) → (∀ q, q < k → aI W (A 236) (256 * (320 * s + j) + q) = x.2 q) → G 389 [(0, .ref m), (1, .int (nI s)), (2, .int t), (3, .int (nI nn)), (4, .int (nI bb)), (6, .int (nI (bb + j))), (7, .int (nI k))] [] W 0 0 := by
            intro e
            induction e with
            | zero =>
              intro k W hk hCW hIW w8 wa wb wc wd we
              have f1 : ¬ nI k < 256 := nI_nlt (b := 256) (by omega) (by omega)
              refine e_g2 hG [(348, [0, 1, 2, 3, 4, 6])] 60 ?_
              simp only [e_wp_s, Option.getD_some, Option.isSome_some, Option.isSome_none, xis0, xis1, xis2, xis3, xis4, e_ks, lk_k, lk_c, List.lookup_nil, gt_c, vi_i, k1_n, k1_c, k2_n, k2_c, ar_n, ar_c, pk_n, pk_c, rm_0, rm_1, rm_2, rm_3, rm_4, rm_5, rc_9, rcs, fvs, rf_s, rf_n, isI_i, isL_l, isR_r, isR_n, isR_q, ct_i, ct_l, ct_r, ct_n, ct_q, tFs, tCs, tKs, tJs, tSs, e_nf, lgs, ↓reduceIte, true_and, and_true, false_and, and_false, or_true, true_or, false_or, or_false, Nat.reduceAdd, Nat.reduceEqDiff, Nat.reduceDiv, Nat.reduceLT, Nat.reduceLeDiff, Nat.zero_add, reduceCtorEq, Bool.false_eq_true, Option.toList_some, Option.toList_none, List.cons_append, List.nil_append, not_true_eq_false, not_false_eq_true, Nat.sub_zero, dsX7_drop_0, dsX7_drop_1, dsX7_drop_2, jsX7_drop, xcX7_drop, f1, nI_1]
              refine ih (j + 1) W (by omega) hCW hIW w8 (fun q y hq hy => wa q y (by omega) hy) (fun q y hq hy => ?_)
              by_cases c : q = j
              · subst c
                rw [Nat.add_comm q bb, hx] at hy
                cases hy
                exact ⟨wc, fun k' hk' => we k' (by omega)⟩
              · exact wb q y (by omega) hy
            | succ e ihe =>
              intro k W hk hCW hIW w8 wa wb wc wd we
              have hMW := hCW.ms hMU
              have z0 := hMW.1
              obtain ⟨rw236, kw236, lw236⟩ : mR W 236 m = some (A 236) ∧ mK W (A 236) = 9 ∧ mN W (A 236) = 655360 := hMW.2 236 rfl
              have f1 : nI k < 256 := nI_lt (b := 256) (by omega) (by decide)
              have j1 : (nI (256 * (320 * s + (bb + j)) + k)).toNatClampNeg = 256 * (320 * s + (bb + j)) + k := nI_clamp (by omega)
              have j2 : vp_in (nI (256 * (320 * s + (bb + j)) + k)) 655360 := vp_in_nI (by omega) (by decide)
              have j3 : (nI (256 * (320 * s + j) + k)).toNatClampNeg = 256 * (320 * s + j) + k := nI_clamp (by omega)
              have j4 : vp_in (nI (256 * (320 * s + j) + k)) 655360 := vp_in_nI (by omega) (by decide)
              have j5 := wd k (by omega)
              refine e_g2 hG [(389, [0, 1, 2, 3, 4, 6, 7])] 60 ?_
              simp only [e_wp_s, Option.getD_some, Option.isSome_some, Option.isSome_none, xis0, xis1, xis2, xis3, xis4, e_ks, lk_k, lk_c, List.lookup_nil, gt_c, vi_i, k1_n, k1_c, k2_n, k2_c, ar_n, ar_c, pk_n, pk_c, rm_0, rm_1, rm_2, rm_3, rm_4, rm_5, rc_9, rcs, fvs, rf_s, rf_n, isI_i, isL_l, isR_r, isR_n, isR_q, ct_i, ct_l, ct_r, ct_n, ct_q, tFs, tCs, tKs, tJs, tSs, e_nf, lgs, ↓reduceIte, true_and, and_true, false_and, and_false, or_true, true_or, false_or, or_false, Nat.reduceAdd, Nat.reduceEqDiff, Nat.reduceDiv, Nat.reduceLT, Nat.reduceLeDiff, Nat.zero_add, reduceCtorEq, Bool.false_eq_true, Option.toList_some, Option.toList_none, List.cons_append, List.nil_append, not_true_eq_false, not_false_eq_true, Nat.sub_zero, dsX7_drop_0, dsX7_drop_1, dsX7_drop_2, jsX7_drop, xcX7_drop, z0, rw236, kw236, lw236, f1, e2, j1, j2, j3, j4, j5, nI_1, ↓sp_X7_mask, mst]
              refine ihe (k + 1) _ (by omega) (MC.tI hCW hO (by decide) rfl) (MI.tI hIW hO rfl (Or.inl (by
                rw [show dvf 236 = 81920 from rfl, show 256 * (320 * s + j) + k = 81920 * s + (256 * j + k) by omega, dq 81920 s _ (by omega)]))) ?_ (fun q y hq hy => ?_) (fun q y hq hy => ?_) ?_ (fun q hq => ?_) (fun q hq => ?_)
              · simp only [haI, n228_236, false_and, if_false]; exact w8
              · simp only [haI, n232_236, false_and, if_false, true_and]
                refine ⟨(wa q y hq hy).1, fun k' hk' => ?_⟩
                rw [if_neg (by omega)]; exact (wa q y hq hy).2 k' hk'
              · simp only [haI, n232_236, false_and, if_false, true_and]
                refine ⟨(wb q y hq hy).1, fun k' hk' => ?_⟩
                rw [if_neg (by omega)]; exact (wb q y hq hy).2 k' hk'
              · simp only [haI, n232_236, false_and, if_false]; exact wc
              · simp only [haI, true_and]
                by_cases c : 256 * (320 * s + (bb + j)) + q = 256 * (320 * s + j) + k
                · rw [if_pos c]
                  have : q = k := by omega
                  rw [this]
                · rw [if_neg c]; exact wd q hq
              · simp only [haI, true_and]
                by_cases c : q = k
                · rw [if_pos (by omega), c]
                · rw [if_neg (by omega)]; exact we q (by omega)
          refine e_g2 hG [(389, [0, 1, 2, 3, 4, 6, 7])] 60 ?_
          simp only [e_wp_s, Option.getD_some, Option.isSome_some, Option.isSome_none, xis0, xis1, xis2, xis3, xis4, e_ks, lk_k, lk_c, List.lookup_nil, gt_c, vi_i, k1_n, k1_c, k2_n, k2_c, ar_n, ar_c, pk_n, pk_c, rm_0, rm_1, rm_2, rm_3, rm_4, rm_5, rc_9, rcs, fvs, rf_s, rf_n, isI_i, isL_l, isR_r, isR_n, isR_q, ct_i, ct_l, ct_r, ct_n, ct_q, tFs, tCs, tKs, tJs, tSs, e_nf, lgs, ↓reduceIte, true_and, and_true, false_and, and_false, or_true, true_or, false_or, or_false, Nat.reduceAdd, Nat.reduceEqDiff, Nat.reduceDiv, Nat.reduceLT, Nat.reduceLeDiff, Nat.zero_add, reduceCtorEq, Bool.false_eq_true, Option.toList_some, Option.toList_none, List.cons_append, List.nil_append, not_true_eq_false, not_false_eq_true, Nat.sub_zero, dsX7_drop_0, dsX7_drop_1, dsX7_drop_2, jsX7_drop, xcX7_drop, y0, rv228, kv228, lv228, rv232, kv232, lv232, sc, sv, v8, e1, e2, i1, i2, i3, i4, xa, ↓sp_X7_spot, spt]
          refine inner 256 0 _ (by omega) (MC.tI hCV hO (by decide) rfl) (MI.tI hIV hO rfl (Or.inl (dq 320 s _ (by omega)))) ?_ (fun q y hq hy => ?_) (fun q y hq hy => ?_) ?_ (fun q hq => ?_) (fun q hq => by omega)
          · simp only [haI, n228_232, false_and, if_false]; exact v8
          · simp only [haI, n236_232, false_and, if_false, true_and]
            rw [if_neg (by omega)]; exact va q y (by omega) hy
          · simp only [haI, n236_232, false_and, if_false, true_and]
            rw [if_neg (by omega)]; exact vb q y hq hy
          · simp only [haI, and_self, if_true]
          · simp only [haI, n236_232, false_and, if_false]; exact xb q hq
      have g0 := hMU.1
      refine e_g2 hG [(348, [0, 1, 2, 3, 4, 6])] 60 ?_
      simp only [e_wp_s, Option.getD_some, Option.isSome_some, Option.isSome_none, xis0, xis1, xis2, xis3, xis4, e_ks, lk_k, lk_c, List.lookup_nil, gt_c, vi_i, k1_n, k1_c, k2_n, k2_c, ar_n, ar_c, pk_n, pk_c, rm_0, rm_1, rm_2, rm_3, rm_4, rm_5, rc_9, rcs, fvs, rf_s, rf_n, isI_i, isL_l, isR_r, isR_n, isR_q, ct_i, ct_l, ct_r, ct_n, ct_q, tFs, tCs, tKs, tJs, tSs, e_nf, lgs, ↓reduceIte, true_and, and_true, false_and, and_false, or_true, true_or, false_or, or_false, Nat.reduceAdd, Nat.reduceEqDiff, Nat.reduceDiv, Nat.reduceLT, Nat.reduceLeDiff, Nat.zero_add, reduceCtorEq, Bool.false_eq_true, Option.toList_some, Option.toList_none, List.cons_append, List.nil_append, not_true_eq_false, not_false_eq_true, Nat.sub_zero, dsX7_drop_0, dsX7_drop_1, dsX7_drop_2, jsX7_drop, xcX7_drop]
      exact loop (bk.length - bb) 0 U (by omega) MC.rf MI.rf u3.1 (fun q x _ hx => u3.2.2.1 q x hx) (fun q x hq => by omega)
    -- points
    have pnts : ∀ U, MC O A m FS7 M U → MI A s M U → mSp A U s (sp.drop nn) → mP A U s (mpts bk) → mB A U s bk → mT A U s lt → G 242 [(0, .ref m), (1, .int (nI s)), (2, .int t), (3, .int (nI nn)), (4, .int (nI bb))] [] U 0 0 := by
      intro U hC hI u1 u2 u3 u4
      have hMU := hC.ms hM
      have g0 := hMU.1
      have hpt := mpts_take bk bb
      have hmd := mpts_drop bk bb
      have pl := u2.1
      refine e_g2 hG [(249, [0, 1, 2, 3, 4])] 60 ?_
      simp only [e_wp_s, Option.getD_some, Option.isSome_some, Option.isSome_none, xis0, xis1, xis2, xis3, xis4, e_ks, lk_k, lk_c, List.lookup_nil, gt_c, vi_i, k1_n, k1_c, k2_n, k2_c, ar_n, ar_c, pk_n, pk_c, rm_0, rm_1, rm_2, rm_3, rm_4, rm_5, rc_9, rcs, fvs, rf_s, rf_n, isI_i, isL_l, isR_r, isR_n, isR_q, ct_i, ct_l, ct_r, ct_n, ct_q, tFs, tCs, tKs, tJs, tSs, e_nf, lgs, ↓reduceIte, true_and, and_true, false_and, and_false, or_true, true_or, false_or, or_false, Nat.reduceAdd, Nat.reduceEqDiff, Nat.reduceDiv, Nat.reduceLT, Nat.reduceLeDiff, Nat.zero_add, reduceCtorEq, Bool.false_eq_true, Option.toList_some, Option.toList_none, List.cons_append, List.nil_append, not_true_eq_false, not_false_eq_true, Nat.sub_zero, dsX7_drop_0, dsX7_drop_1, dsX7_drop_2, jsX7_drop, xcX7_drop, g0]
      refine ⟨A, s, bb, bk, hMU, hs, u3, rfl, rfl, hb, ?_⟩
      generalize hgg : (mpts (bk.take bb)).length = g at *
      have loop : ∀ d j V, j + d = (mpts bk).length - g → MC O A m [227, 231, 234] U V → MI A s U V → aI V (A 227) = aI U (A 227) → (∀ q, aI V (A 231) q = if 320 * s ≤ q ∧ q < 320 * s + j then aI U (A 231) (q + g) else aI U (A 231) q) → (∀ q, aL V (A 234) q = if 320 * s ≤ q ∧ q < 320 * s + j then aL U (A 234) (q + g) else aL U (A 234) q) → G 262 [(0, .ref m), (1, .int (nI s)), (2, .int t), (3, .int (nI nn)), (4, .int (nI bb)), (5, .int (nI g)), (6, .int (nI (g + j)))] [] V 0 0 := by
        intro d
        induction d with
        | zero =>
          intro j V hj hCV hIV v7 v1 v4
          have hMV := hCV.ms hMU
          have y0 := hMV.1
          obtain ⟨rv227, kv227, lv227⟩ : mR V 227 m = some (A 227) ∧ mK V (A 227) = 9 ∧ mN V (A 227) = 8 := hMV.2 227 rfl
          have vl : aI V (A 227) s = nI (mpts bk).length := by rw [v7]; exact pl
          have e1 : ¬ nI (g + j) < nI (mpts bk).length := nI_nlt (by omega) (by omega)
          have e2 : nI (mpts bk).length - nI g = nI ((mpts bk).length - g) := nI_sub hpt
          have hC3 : MC O A m [227, 231, 234] U (tI V (A 227) s (nI ((mpts bk).length - g))) := MC.tI hCV hO (by decide) rfl
          have hC4 := hC.tr (hC3.mono (gs := FS7) (fun f hf => by revert hf; revert f; decide))
          have hI4 := hI.tr (MI.tI (f := 227) (i := s) hIV hO rfl (Or.inl (Nat.div_one s)) (v := nI ((mpts bk).length - g)))
          refine e_g2 hG [(344, [0, 1, 2, 3, 4])] 60 ?_
          simp only [e_wp_s, Option.getD_some, Option.isSome_some, Option.isSome_none, xis0, xis1, xis2, xis3, xis4, e_ks, lk_k, lk_c, List.lookup_nil, gt_c, vi_i, k1_n, k1_c, k2_n, k2_c, ar_n, ar_c, pk_n, pk_c, rm_0, rm_1, rm_2, rm_3, rm_4, rm_5, rc_9, rcs, fvs, rf_s, rf_n, isI_i, isL_l, isR_r, isR_n, isR_q, ct_i, ct_l, ct_r, ct_n, ct_q, tFs, tCs, tKs, tJs, tSs, e_nf, lgs, ↓reduceIte, true_and, and_true, false_and, and_false, or_true, true_or, false_or, or_false, Nat.reduceAdd, Nat.reduceEqDiff, Nat.reduceDiv, Nat.reduceLT, Nat.reduceLeDiff, Nat.zero_add, reduceCtorEq, Bool.false_eq_true, Option.toList_some, Option.toList_none, List.cons_append, List.nil_append, not_true_eq_false, not_false_eq_true, Nat.sub_zero, dsX7_drop_0, dsX7_drop_1, dsX7_drop_2, jsX7_drop, xcX7_drop, y0, rv227, kv227, lv227, sc, sv, vl, e1, e2]
          refine blks _ hC4 hI4 (hC3.mSp (fun f h1 h2 => by intro hf; simp at hf; omega) (by decide) u1) ⟨?_, ?_, ?_⟩ (hC3.mB (by decide) u3) (hC3.mT (by decide) u4)
          · simp only [haI, and_self, if_true]; rw [hmd, List.length_drop]
          · rw [hmd, List.length_drop]; omega
          · rw [hmd]
            refine rdf_eq (fun q y hy => ?_)
            have hql := (List.getElem?_eq_some_iff.mp hy).1
            rw [List.length_drop] at hql
            rw [List.getElem?_drop] at hy
            obtain ⟨w1, w2, -⟩ := mP_at u2 hy
            simp only [haI, haL, n231_227, false_and, if_false]
            rw [v1, v4, if_pos (by omega), if_pos (by omega), show 320 * s + q + g = 320 * s + (g + q) by omega, w1, w2]
        | succ d ih =>
          intro j V hj hCV hIV v7 v1 v4
          have hMV := hCV.ms hMU
          have y0 := hMV.1
          obtain ⟨rv227, kv227, lv227⟩ : mR V 227 m = some (A 227) ∧ mK V (A 227) = 9 ∧ mN V (A 227) = 8 := hMV.2 227 rfl
          obtain ⟨rv231, kv231, lv231⟩ : mR V 231 m = some (A 231) ∧ mK V (A 231) = 9 ∧ mN V (A 231) = 2560 := hMV.2 231 rfl
          obtain ⟨rv234, kv234, lv234⟩ : mR V 234 m = some (A 234) ∧ mK V (A 234) = 10 ∧ mN V (A 234) = 2560 := hMV.2 234 rfl
          have vl : aI V (A 227) s = nI (mpts bk).length := by rw [v7]; exact pl
          have e1 : nI (g + j) < nI (mpts bk).length := nI_lt (by omega) (by omega)
          have e2 : nI (g + j) - nI g = nI j := by rw [nI_sub (by omega)]; congr 1; omega
          have i1 : (nI (320 * s + (g + j))).toNatClampNeg = 320 * s + (g + j) := nI_clamp (by omega)
          have i2 : vp_in (nI (320 * s + (g + j))) 2560 := vp_in_nI (by omega) (by decide)
          have i3 : (nI (320 * s + j)).toNatClampNeg = 320 * s + j := nI_clamp (by omega)
          have i4 : vp_in (nI (320 * s + j)) 2560 := vp_in_nI (by omega) (by decide)
          refine e_g2 hG [(262, [0, 1, 2, 3, 4, 5, 6])] 60 ?_
          simp only [e_wp_s, Option.getD_some, Option.isSome_some, Option.isSome_none, xis0, xis1, xis2, xis3, xis4, e_ks, lk_k, lk_c, List.lookup_nil, gt_c, vi_i, k1_n, k1_c, k2_n, k2_c, ar_n, ar_c, pk_n, pk_c, rm_0, rm_1, rm_2, rm_3, rm_4, rm_5, rc_9, rcs, fvs, rf_s, rf_n, isI_i, isL_l, isR_r, isR_n, isR_q, ct_i, ct_l, ct_r, ct_n, ct_q, tFs, tCs, tKs, tJs, tSs, e_nf, lgs, ↓reduceIte, true_and, and_true, false_and, and_false, or_true, true_or, false_or, or_false, Nat.reduceAdd, Nat.reduceEqDiff, Nat.reduceDiv, Nat.reduceLT, Nat.reduceLeDiff, Nat.zero_add, reduceCtorEq, Bool.false_eq_true, Option.toList_some, Option.toList_none, List.cons_append, List.nil_append, not_true_eq_false, not_false_eq_true, Nat.sub_zero, dsX7_drop_0, dsX7_drop_1, dsX7_drop_2, jsX7_drop, xcX7_drop, y0, rv227, kv227, lv227, rv231, kv231, lv231, rv234, kv234, lv234, sc, sv, vl, e1, e2, i1, i2, i3, i4, nI_1, hmK, hmN, hmI, hmL, hmR, haI, haL, haR, ↓sp_X7_spot, spt]
          refine ih (j + 1) _ (by omega) (MC.tL (MC.tI hCV hO (by decide) rfl) hO (by decide) rfl) (MI.tL (MI.tI hIV hO rfl (Or.inl (dq 320 s _ (by omega)))) hO rfl (Or.inl (dq 320 s _ (by omega)))) ?_ (fun q => ?_) (fun q => ?_)
          · funext q; simp only [haI, n227_231, false_and, if_false]; rw [v7]
          · simp only [haI, true_and]
            by_cases c : q = 320 * s + j
            · rw [if_pos c, v1, if_neg (by omega), if_pos (by omega), c]; congr 1; omega
            · rw [if_neg c, v1]
              by_cases c2 : 320 * s ≤ q ∧ q < 320 * s + j
              · rw [if_pos c2, if_pos (by omega)]
              · rw [if_neg c2, if_neg (by omega)]
          · simp only [haL, true_and]
            by_cases c : q = 320 * s + j
            · rw [if_pos c, v4, if_neg (by omega), if_pos (by omega), c]; congr 1; omega
            · rw [if_neg c, v4]
              by_cases c2 : 320 * s ≤ q ∧ q < 320 * s + j
              · rw [if_pos c2, if_pos (by omega)]
              · rw [if_neg c2, if_neg (by omega)]
      have e0 : nI (320 * s + g) - (320 * nI s + 0) = nI g := by
        rw [Int32.add_zero, show (320 : Int32) = nI 320 from rfl, nI_mul, nI_sub (by omega)]; congr 1; omega
      refine e_g2 hG [(262, [0, 1, 2, 3, 4, 5, 6])] 60 ?_
      simp only [e_wp_s, Option.getD_some, Option.isSome_some, Option.isSome_none, xis0, xis1, xis2, xis3, xis4, e_ks, lk_k, lk_c, List.lookup_nil, gt_c, vi_i, k1_n, k1_c, k2_n, k2_c, ar_n, ar_c, pk_n, pk_c, rm_0, rm_1, rm_2, rm_3, rm_4, rm_5, rc_9, rcs, fvs, rf_s, rf_n, isI_i, isL_l, isR_r, isR_n, isR_q, ct_i, ct_l, ct_r, ct_n, ct_q, tFs, tCs, tKs, tJs, tSs, e_nf, lgs, ↓reduceIte, true_and, and_true, false_and, and_false, or_true, true_or, false_or, or_false, Nat.reduceAdd, Nat.reduceEqDiff, Nat.reduceDiv, Nat.reduceLT, Nat.reduceLeDiff, Nat.zero_add, reduceCtorEq, Bool.false_eq_true, Option.toList_some, Option.toList_none, List.cons_append, List.nil_append, not_true_eq_false, not_false_eq_true, Nat.sub_zero, dsX7_drop_0, dsX7_drop_1, dsX7_drop_2, jsX7_drop, xcX7_drop, g0, e0, ↓sp_X7_spot]
      exact loop ((mpts bk).length - g) 0 U (by omega) MC.rf MI.rf rfl (fun q => by rw [if_neg (by omega)]) (fun q => by rw [if_neg (by omega)])
    -- how many blocks
    have bcnt : ∀ U, MC O A m FS7 M U → MI A s M U → mSp A U s (sp.drop nn) → mP A U s (mpts bk) → mB A U s bk → mT A U s lt → G 211 [(0, .ref m), (1, .int (nI s)), (2, .int t), (3, .int (nI nn))] [] U 0 0 := by
      intro U hC hI u1 u2 u3 u4
      have hMU := hC.ms hM
      have g0 := hMU.1
      obtain ⟨r228, k228, l228⟩ : mR U 228 m = some (A 228) ∧ mK U (A 228) = 9 ∧ mN U (A 228) = 8 := hMU.2 228 rfl
      have bl := u3.1
      have loop : ∀ d j, j + d = bk.length → j + dpB t (bk.drop j) = bb → G 214 [(0, .ref m), (1, .int (nI s)), (2, .int t), (3, .int (nI nn)), (4, .int (nI j))] [] U 0 0 := by
        intro d
        induction d with
        | zero =>
          intro j hj he
          have e1 : ¬ nI j < nI bk.length := nI_nlt (by omega) (by omega)
          rw [List.drop_eq_nil_of_le (by omega), dpB] at he
          refine e_g2 hG [(242, [0, 1, 2, 3, 4])] 60 ?_
          simp only [e_wp_s, Option.getD_some, Option.isSome_some, Option.isSome_none, xis0, xis1, xis2, xis3, xis4, e_ks, lk_k, lk_c, List.lookup_nil, gt_c, vi_i, k1_n, k1_c, k2_n, k2_c, ar_n, ar_c, pk_n, pk_c, rm_0, rm_1, rm_2, rm_3, rm_4, rm_5, rc_9, rcs, fvs, rf_s, rf_n, isI_i, isL_l, isR_r, isR_n, isR_q, ct_i, ct_l, ct_r, ct_n, ct_q, tFs, tCs, tKs, tJs, tSs, e_nf, lgs, ↓reduceIte, true_and, and_true, false_and, and_false, or_true, true_or, false_or, or_false, Nat.reduceAdd, Nat.reduceEqDiff, Nat.reduceDiv, Nat.reduceLT, Nat.reduceLeDiff, Nat.zero_add, reduceCtorEq, Bool.false_eq_true, Option.toList_some, Option.toList_none, List.cons_append, List.nil_append, not_true_eq_false, not_false_eq_true, Nat.sub_zero, dsX7_drop_0, dsX7_drop_1, dsX7_drop_2, jsX7_drop, xcX7_drop, g0, r228, k228, l228, sc, sv, bl, e1]
          rw [show j = bb by omega]
          exact pnts U hC hI u1 u2 u3 u4
        | succ d ih =>
          intro j hj he
          have e1 : nI j < nI bk.length := nI_lt (by omega) (by omega)
          obtain ⟨x, hx⟩ : ∃ x, bk[j]? = some x := ⟨_, List.getElem?_eq_getElem (by omega)⟩
          rw [drop_at hx, dpB] at he
          refine e_g2 hG [(232, [0, 1, 2, 3, 4])] 60 ?_
          simp only [e_wp_s, Option.getD_some, Option.isSome_some, Option.isSome_none, xis0, xis1, xis2, xis3, xis4, e_ks, lk_k, lk_c, List.lookup_nil, gt_c, vi_i, k1_n, k1_c, k2_n, k2_c, ar_n, ar_c, pk_n, pk_c, rm_0, rm_1, rm_2, rm_3, rm_4, rm_5, rc_9, rcs, fvs, rf_s, rf_n, isI_i, isL_l, isR_r, isR_n, isR_q, ct_i, ct_l, ct_r, ct_n, ct_q, tFs, tCs, tKs, tJs, tSs, e_nf, lgs, ↓reduceIte, true_and, and_true, false_and, and_false, or_true, true_or, false_or, or_false, Nat.reduceAdd, Nat.reduceEqDiff, Nat.reduceDiv, Nat.reduceLT, Nat.reduceLeDiff, Nat.zero_add, reduceCtorEq, Bool.false_eq_true, Option.toList_some, Option.toList_none, List.cons_append, List.nil_append, not_true_eq_false, not_false_eq_true, Nat.sub_zero, dsX7_drop_0, dsX7_drop_1, dsX7_drop_2, jsX7_drop, xcX7_drop, g0, r228, k228, l228, sc, sv, bl, e1]
          refine ⟨A, s, j, bk, x, hMU, hs, u3, u2, rfl, rfl, hx, ?_⟩
          by_cases c : eT (enc x.1) < t
          · rw [if_pos c] at he
            refine e_g2 hG [(214, [0, 1, 2, 3, 4])] 60 ?_
            simp only [e_wp_s, Option.getD_some, Option.isSome_some, Option.isSome_none, xis0, xis1, xis2, xis3, xis4, e_ks, lk_k, lk_c, List.lookup_nil, gt_c, vi_i, k1_n, k1_c, k2_n, k2_c, ar_n, ar_c, pk_n, pk_c, rm_0, rm_1, rm_2, rm_3, rm_4, rm_5, rc_9, rcs, fvs, rf_s, rf_n, isI_i, isL_l, isR_r, isR_n, isR_q, ct_i, ct_l, ct_r, ct_n, ct_q, tFs, tCs, tKs, tJs, tSs, e_nf, lgs, ↓reduceIte, true_and, and_true, false_and, and_false, or_true, true_or, false_or, or_false, Nat.reduceAdd, Nat.reduceEqDiff, Nat.reduceDiv, Nat.reduceLT, Nat.reduceLeDiff, Nat.zero_add, reduceCtorEq, Bool.false_eq_true, Option.toList_some, Option.toList_none, List.cons_append, List.nil_append, not_true_eq_false, not_false_eq_true, Nat.sub_zero, dsX7_drop_0, dsX7_drop_1, dsX7_drop_2, jsX7_drop, xcX7_drop, c, nI_1]
            exact ih (j + 1) (by omega) (by omega)
          · rw [if_neg c] at he
            refine e_g2 hG [(242, [0, 1, 2, 3, 4])] 60 ?_
            simp only [e_wp_s, Option.getD_some, Option.isSome_some, Option.isSome_none, xis0, xis1, xis2, xis3, xis4, e_ks, lk_k, lk_c, List.lookup_nil, gt_c, vi_i, k1_n, k1_c, k2_n, k2_c, ar_n, ar_c, pk_n, pk_c, rm_0, rm_1, rm_2, rm_3, rm_4, rm_5, rc_9, rcs, fvs, rf_s, rf_n, isI_i, isL_l, isR_r, isR_n, isR_q, ct_i, ct_l, ct_r, ct_n, ct_q, tFs, tCs, tKs, tJs, tSs, e_nf, lgs, ↓reduceIte, true_and, and_true, false_and, and_false, or_true, true_or, false_or, or_false, Nat.reduceAdd, Nat.reduceEqDiff, Nat.reduceDiv, Nat.reduceLT, Nat.reduceLeDiff, Nat.zero_add, reduceCtorEq, Bool.false_eq_true, Option.toList_some, Option.toList_none, List.cons_append, List.nil_append, not_true_eq_false, not_false_eq_true, Nat.sub_zero, dsX7_drop_0, dsX7_drop_1, dsX7_drop_2, jsX7_drop, xcX7_drop, c]
            rw [show j = bb by omega]
            exact pnts U hC hI u1 u2 u3 u4
      refine e_g2 hG [(214, [0, 1, 2, 3, 4])] 60 ?_
      simp only [e_wp_s, Option.getD_some, Option.isSome_some, Option.isSome_none, xis0, xis1, xis2, xis3, xis4, e_ks, lk_k, lk_c, List.lookup_nil, gt_c, vi_i, k1_n, k1_c, k2_n, k2_c, ar_n, ar_c, pk_n, pk_c, rm_0, rm_1, rm_2, rm_3, rm_4, rm_5, rc_9, rcs, fvs, rf_s, rf_n, isI_i, isL_l, isR_r, isR_n, isR_q, ct_i, ct_l, ct_r, ct_n, ct_q, tFs, tCs, tKs, tJs, tSs, e_nf, lgs, ↓reduceIte, true_and, and_true, false_and, and_false, or_true, true_or, false_or, or_false, Nat.reduceAdd, Nat.reduceEqDiff, Nat.reduceDiv, Nat.reduceLT, Nat.reduceLeDiff, Nat.zero_add, reduceCtorEq, Bool.false_eq_true, Option.toList_some, Option.toList_none, List.cons_append, List.nil_append, not_true_eq_false, not_false_eq_true, Nat.sub_zero, dsX7_drop_0, dsX7_drop_1, dsX7_drop_2, jsX7_drop, xcX7_drop]
      exact loop bk.length 0 (by omega) (by rw [Nat.zero_add]; exact hbb)
    have n230_237 : ¬ A 230 = A 237 := hO.ne (f := 230) (g := 237) rfl rfl (by decide)
    have n230_238 : ¬ A 230 = A 238 := hO.ne (f := 230) (g := 238) rfl rfl (by decide)
    have n230_239 : ¬ A 230 = A 239 := hO.ne (f := 230) (g := 239) rfl rfl (by decide)
    have n230_240 : ¬ A 230 = A 240 := hO.ne (f := 230) (g := 240) rfl rfl (by decide)
    have n230_241 : ¬ A 230 = A 241 := hO.ne (f := 230) (g := 241) rfl rfl (by decide)
    have n230_242 : ¬ A 230 = A 242 := hO.ne (f := 230) (g := 242) rfl rfl (by decide)
    have n230_243 : ¬ A 230 = A 243 := hO.ne (f := 230) (g := 243) rfl rfl (by decide)
    have n230_244 : ¬ A 230 = A 244 := hO.ne (f := 230) (g := 244) rfl rfl (by decide)
    have n237_230 : ¬ A 237 = A 230 := hO.ne (f := 237) (g := 230) rfl rfl (by decide)
    have n237_238 : ¬ A 237 = A 238 := hO.ne (f := 237) (g := 238) rfl rfl (by decide)
    have n237_239 : ¬ A 237 = A 239 := hO.ne (f := 237) (g := 239) rfl rfl (by decide)
    have n237_240 : ¬ A 237 = A 240 := hO.ne (f := 237) (g := 240) rfl rfl (by decide)
    have n237_241 : ¬ A 237 = A 241 := hO.ne (f := 237) (g := 241) rfl rfl (by decide)
    have n237_242 : ¬ A 237 = A 242 := hO.ne (f := 237) (g := 242) rfl rfl (by decide)
    have n237_243 : ¬ A 237 = A 243 := hO.ne (f := 237) (g := 243) rfl rfl (by decide)
    have n237_244 : ¬ A 237 = A 244 := hO.ne (f := 237) (g := 244) rfl rfl (by decide)
    have n238_230 : ¬ A 238 = A 230 := hO.ne (f := 238) (g := 230) rfl rfl (by decide)
    have n238_237 : ¬ A 238 = A 237 := hO.ne (f := 238) (g := 237) rfl rfl (by decide)
    have n238_239 : ¬ A 238 = A 239 := hO.ne (f := 238) (g := 239) rfl rfl (by decide)
    have n238_240 : ¬ A 238 = A 240 := hO.ne (f := 238) (g := 240) rfl rfl (by decide)
    have n238_241 : ¬ A 238 = A 241 := hO.ne (f := 238) (g := 241) rfl rfl (by decide)
    have n238_242 : ¬ A 238 = A 242 := hO.ne (f := 238) (g := 242) rfl rfl (by decide)
    have n238_243 : ¬ A 238 = A 243 := hO.ne (f := 238) (g := 243) rfl rfl (by decide)
    have n238_244 : ¬ A 238 = A 244 := hO.ne (f := 238) (g := 244) rfl rfl (by decide)
    have n239_230 : ¬ A 239 = A 230 := hO.ne (f := 239) (g := 230) rfl rfl (by decide)
    have n239_237 : ¬ A 239 = A 237 := hO.ne (f := 239) (g := 237) rfl rfl (by decide)
    have n239_238 : ¬ A 239 = A 238 := hO.ne (f := 239) (g := 238) rfl rfl (by decide)
    have n239_240 : ¬ A 239 = A 240 := hO.ne (f := 239) (g := 240) rfl rfl (by decide)
    have n239_241 : ¬ A 239 = A 241 := hO.ne (f := 239) (g := 241) rfl rfl (by decide)
    have n239_242 : ¬ A 239 = A 242 := hO.ne (f := 239) (g := 242) rfl rfl (by decide)
    have n239_243 : ¬ A 239 = A 243 := hO.ne (f := 239) (g := 243) rfl rfl (by decide)
    have n239_244 : ¬ A 239 = A 244 := hO.ne (f := 239) (g := 244) rfl rfl (by decide)
    have n240_230 : ¬ A 240 = A 230 := hO.ne (f := 240) (g := 230) rfl rfl (by decide)
    have n240_237 : ¬ A 240 = A 237 := hO.ne (f := 240) (g := 237) rfl rfl (by decide)
    have n240_238 : ¬ A 240 = A 238 := hO.ne (f := 240) (g := 238) rfl rfl (by decide)
    have n240_239 : ¬ A 240 = A 239 := hO.ne (f := 240) (g := 239) rfl rfl (by decide)
    have n240_241 : ¬ A 240 = A 241 := hO.ne (f := 240) (g := 241) rfl rfl (by decide)
    have n240_242 : ¬ A 240 = A 242 := hO.ne (f := 240) (g := 242) rfl rfl (by decide)
    have n240_243 : ¬ A 240 = A 243 := hO.ne (f := 240) (g := 243) rfl rfl (by decide)
    have n240_244 : ¬ A 240 = A 244 := hO.ne (f := 240) (g := 244) rfl rfl (by decide)
    have n241_230 : ¬ A 241 = A 230 := hO.ne (f := 241) (g := 230) rfl rfl (by decide)
    have n241_237 : ¬ A 241 = A 237 := hO.ne (f := 241) (g := 237) rfl rfl (by decide)
    have n241_238 : ¬ A 241 = A 238 := hO.ne (f := 241) (g := 238) rfl rfl (by decide)
    have n241_239 : ¬ A 241 = A 239 := hO.ne (f := 241) (g := 239) rfl rfl (by decide)
    have n241_240 : ¬ A 241 = A 240 := hO.ne (f := 241) (g := 240) rfl rfl (by decide)
    have n241_242 : ¬ A 241 = A 242 := hO.ne (f := 241) (g := 242) rfl rfl (by decide)
    have n241_243 : ¬ A 241 = A 243 := hO.ne (f := 241) (g := 243) rfl rfl (by decide)
    have n241_244 : ¬ A 241 = A 244 := hO.ne (f := 241) (g := 244) rfl rfl (by decide)
    have n242_230 : ¬ A 242 = A 230 := hO.ne (f := 242) (g := 230) rfl rfl (by decide)
    have n242_237 : ¬ A 242 = A 237 := hO.ne (f := 242) (g := 237) rfl rfl (by decide)
    have n242_238 : ¬ A 242 = A 238 := hO.ne (f := 242) (g := 238) rfl rfl (by decide)
    have n242_239 : ¬ A 242 = A 239 := hO.ne (f := 242) (g := 239) rfl rfl (by decide)
    have n242_240 : ¬ A 242 = A 240 := hO.ne (f := 242) (g := 240) rfl rfl (by decide)
    have n242_241 : ¬ A 242 = A 241 := hO.ne (f := 242) (g := 241) rfl rfl (by decide)
    have n242_243 : ¬ A 242 = A 243 := hO.ne (f := 242) (g := 243) rfl rfl (by decide)
    have n242_244 : ¬ A 242 = A 244 := hO.ne (f := 242) (g := 244) rfl rfl (by decide)
    have n243_230 : ¬ A 243 = A 230 := hO.ne (f := 243) (g := 230) rfl rfl (by decide)
    have n243_237 : ¬ A 243 = A 237 := hO.ne (f := 243) (g := 237) rfl rfl (by decide)
    have n243_238 : ¬ A 243 = A 238 := hO.ne (f := 243) (g := 238) rfl rfl (by decide)
    have n243_239 : ¬ A 243 = A 239 := hO.ne (f := 243) (g := 239) rfl rfl (by decide)
    have n243_240 : ¬ A 243 = A 240 := hO.ne (f := 243) (g := 240) rfl rfl (by decide)
    have n243_241 : ¬ A 243 = A 241 := hO.ne (f := 243) (g := 241) rfl rfl (by decide)
    have n243_242 : ¬ A 243 = A 242 := hO.ne (f := 243) (g := 242) rfl rfl (by decide)
    have n243_244 : ¬ A 243 = A 244 := hO.ne (f := 243) (g := 244) rfl rfl (by decide)
    have n244_230 : ¬ A 244 = A 230 := hO.ne (f := 244) (g := 230) rfl rfl (by decide)
    have n244_237 : ¬ A 244 = A 237 := hO.ne (f := 244) (g := 237) rfl rfl (by decide)
    have n244_238 : ¬ A 244 = A 238 := hO.ne (f := 244) (g := 238) rfl rfl (by decide)
    have n244_239 : ¬ A 244 = A 239 := hO.ne (f := 244) (g := 239) rfl rfl (by decide)
    have n244_240 : ¬ A 244 = A 240 := hO.ne (f := 244) (g := 240) rfl rfl (by decide)
    have n244_241 : ¬ A 244 = A 241 := hO.ne (f := 244) (g := 241) rfl rfl (by decide)
    have n244_242 : ¬ A 244 = A 242 := hO.ne (f := 244) (g := 242) rfl rfl (by decide)
    have n244_243 : ¬ A 244 = A 243 := hO.ne (f := 244) (g := 243) rfl rfl (by decide)
    -- spans
    have spns : G 43 [(0, .ref m), (1, .int (nI s)), (2, .int t), (3, .int (nI nn))] [] M 0 0 := by
      have sl := hSp.1
      have loop : ∀ d j V, j + d = sp.length - nn → MC O A m [230, 237, 238, 239, 240, 241, 242, 243, 244] M V → MI A s M V → aI V (A 230) = aI M (A 230) → (∀ q, spv A V q = if 70 * s ≤ q ∧ q < 70 * s + j then spv A M (q + nn) else spv A M q) → G 49 [(0, .ref m), (1, .int (nI s)), (2, .int t), (3, .int (nI nn)), (4, .int (nI (70 * s + j)))] [] V 0 0 := by
        intro d
        induction d with
        | zero =>
          intro j V hj hCV hIV v0 vs
          have hMV := hCV.ms hM
          have y0 := hMV.1
          obtain ⟨rv230, kv230, lv230⟩ : mR V 230 m = some (A 230) ∧ mK V (A 230) = 9 ∧ mN V (A 230) = 8 := hMV.2 230 rfl
          have vl : aI V (A 230) s = nI sp.length := by rw [v0]; exact sl
          have e0 : nI (70 * s + sp.length) - nI nn = nI (70 * s + sp.length - nn) := nI_sub (by omega)
          have e1 : ¬ nI (70 * s + j) < nI (70 * s + sp.length - nn) := nI_nlt (by omega) (by omega)
          have e2 : nI sp.length - nI nn = nI (sp.length - nn) := nI_sub hn
          have hC3 : MC O A m [230, 237, 238, 239, 240, 241, 242, 243, 244] M (tI V (A 230) s (nI (sp.length - nn))) := MC.tI hCV hO (by decide) rfl
          have hC4 := hC3.mono (gs := FS7) (fun f hf => by revert hf; revert f; decide)
          have hI4 := (MI.tI (f := 230) (i := s) hIV hO rfl (Or.inl (Nat.div_one s)) (v := nI (sp.length - nn)))
          refine e_g2 hG [(211, [0, 1, 2, 3])] 60 ?_
          simp only [e_wp_s, Option.getD_some, Option.isSome_some, Option.isSome_none, xis0, xis1, xis2, xis3, xis4, e_ks, lk_k, lk_c, List.lookup_nil, gt_c, vi_i, k1_n, k1_c, k2_n, k2_c, ar_n, ar_c, pk_n, pk_c, rm_0, rm_1, rm_2, rm_3, rm_4, rm_5, rc_9, rcs, fvs, rf_s, rf_n, isI_i, isL_l, isR_r, isR_n, isR_q, ct_i, ct_l, ct_r, ct_n, ct_q, tFs, tCs, tKs, tJs, tSs, e_nf, lgs, ↓reduceIte, true_and, and_true, false_and, and_false, or_true, true_or, false_or, or_false, Nat.reduceAdd, Nat.reduceEqDiff, Nat.reduceDiv, Nat.reduceLT, Nat.reduceLeDiff, Nat.zero_add, reduceCtorEq, Bool.false_eq_true, Option.toList_some, Option.toList_none, List.cons_append, List.nil_append, not_true_eq_false, not_false_eq_true, Nat.sub_zero, dsX7_drop_0, dsX7_drop_1, dsX7_drop_2, jsX7_drop, xcX7_drop, y0, rv230, kv230, lv230, sc, sv, vl, l70, e0, e1, e2]
          refine bcnt _ hC4 hI4 ⟨?_, ?_, ?_⟩ (hC3.mP (by decide) hP) (hC3.mB (by decide) hB) (hC3.mT (by decide) hT)
          · simp only [haI, and_self, if_true]; rw [List.length_drop]
          · rw [List.length_drop]; omega
          · refine rdf_eq (fun q y hy => ?_)
            have hql := (List.getElem?_eq_some_iff.mp hy).1
            rw [List.length_drop] at hql
            rw [List.getElem?_drop] at hy
            obtain ⟨w1, -, -⟩ := mSp_at hSp hy
            have e3 : spv A (tI V (A 230) s (nI (sp.length - nn))) (70 * s + q) = spv A V (70 * s + q) := by
              unfold spv
              simp only [haI, haL, n237_230, n238_230, n239_230, false_and, if_false]
            rw [e3, vs, if_pos (by omega), show 70 * s + q + nn = 70 * s + (nn + q) by omega, w1]
        | succ d ih =>
          intro j V hj hCV hIV v0 vs
          have hMV := hCV.ms hM
          have y0 := hMV.1
          obtain ⟨rv230, kv230, lv230⟩ : mR V 230 m = some (A 230) ∧ mK V (A 230) = 9 ∧ mN V (A 230) = 8 := hMV.2 230 rfl
          obtain ⟨rv237, kv237, lv237⟩ : mR V 237 m = some (A 237) ∧ mK V (A 237) = 9 ∧ mN V (A 237) = 560 := hMV.2 237 rfl
          obtain ⟨rv238, kv238, lv238⟩ : mR V 238 m = some (A 238) ∧ mK V (A 238) = 9 ∧ mN V (A 238) = 560 := hMV.2 238 rfl
          obtain ⟨rv239, kv239, lv239⟩ : mR V 239 m = some (A 239) ∧ mK V (A 239) = 9 ∧ mN V (A 239) = 560 := hMV.2 239 rfl
          obtain ⟨rv240, kv240, lv240⟩ : mR V 240 m = some (A 240) ∧ mK V (A 240) = 10 ∧ mN V (A 240) = 560 := hMV.2 240 rfl
          obtain ⟨rv241, kv241, lv241⟩ : mR V 241 m = some (A 241) ∧ mK V (A 241) = 10 ∧ mN V (A 241) = 560 := hMV.2 241 rfl
          obtain ⟨rv242, kv242, lv242⟩ : mR V 242 m = some (A 242) ∧ mK V (A 242) = 10 ∧ mN V (A 242) = 560 := hMV.2 242 rfl
          obtain ⟨rv243, kv243, lv243⟩ : mR V 243 m = some (A 243) ∧ mK V (A 243) = 10 ∧ mN V (A 243) = 560 := hMV.2 243 rfl
          obtain ⟨rv244, kv244, lv244⟩ : mR V 244 m = some (A 244) ∧ mK V (A 244) = 10 ∧ mN V (A 244) = 560 := hMV.2 244 rfl
          have vl : aI V (A 230) s = nI sp.length := by rw [v0]; exact sl
          have e0 : nI (70 * s + sp.length) - nI nn = nI (70 * s + sp.length - nn) := nI_sub (by omega)
          have e1 : nI (70 * s + j) < nI (70 * s + sp.length - nn) := nI_lt (by omega) (by omega)
          have i1 : (nI (70 * s + j)).toNatClampNeg = 70 * s + j := nI_clamp (by omega)
          have i2 : vp_in (nI (70 * s + j)) 560 := vp_in_nI (by omega) (by decide)
          have i3 : (nI (70 * s + j + nn)).toNatClampNeg = 70 * s + j + nn := nI_clamp (by omega)
          have i4 : vp_in (nI (70 * s + j + nn)) 560 := vp_in_nI (by omega) (by decide)
          refine e_g2 hG [(49, [0, 1, 2, 3, 4])] 100 ?_
          simp only [e_wp_s, Option.getD_some, Option.isSome_some, Option.isSome_none, xis0, xis1, xis2, xis3, xis4, e_ks, lk_k, lk_c, List.lookup_nil, gt_c, vi_i, k1_n, k1_c, k2_n, k2_c, ar_n, ar_c, pk_n, pk_c, rm_0, rm_1, rm_2, rm_3, rm_4, rm_5, rc_9, rcs, fvs, rf_s, rf_n, isI_i, isL_l, isR_r, isR_n, isR_q, ct_i, ct_l, ct_r, ct_n, ct_q, tFs, tCs, tKs, tJs, tSs, e_nf, lgs, ↓reduceIte, true_and, and_true, false_and, and_false, or_true, true_or, false_or, or_false, Nat.reduceAdd, Nat.reduceEqDiff, Nat.reduceDiv, Nat.reduceLT, Nat.reduceLeDiff, Nat.zero_add, reduceCtorEq, Bool.false_eq_true, Option.toList_some, Option.toList_none, List.cons_append, List.nil_append, not_true_eq_false, not_false_eq_true, Nat.sub_zero, dsX7_drop_0, dsX7_drop_1, dsX7_drop_2, jsX7_drop, xcX7_drop, y0, rv230, kv230, lv230, rv237, kv237, lv237, rv238, kv238, lv238, rv239, kv239, lv239, rv240, kv240, lv240, rv241, kv241, lv241, rv242, kv242, lv242, rv243, kv243, lv243, rv244, kv244, lv244, n230_237, n230_238, n230_239, n230_240, n230_241, n230_242, n230_243, n230_244, n237_230, n237_238, n237_239, n237_240, n237_241, n237_242, n237_243, n237_244, n238_230, n238_237, n238_239, n238_240, n238_241, n238_242, n238_243, n238_244, n239_230, n239_237, n239_238, n239_240, n239_241, n239_242, n239_243, n239_244, n240_230, n240_237, n240_238, n240_239, n240_241, n240_242, n240_243, n240_244, n241_230, n241_237, n241_238, n241_239, n241_240, n241_242, n241_243, n241_244, n242_230, n242_237, n242_238, n242_239, n242_240, n242_241, n242_243, n242_244, n243_230, n243_237, n243_238, n243_239, n243_240, n243_241, n243_242, n243_244, n244_230, n244_237, n244_238, n244_239, n244_240, n244_241, n244_242, n244_243, sc, sv, vl, l70, e0, e1, i1, i2, i3, i4, nI_add, nI_1, hmK, hmN, hmI, hmL, hmR, haI, haL, haR]
          refine ih (j + 1) _ (by omega) (MC.tL (MC.tL (MC.tL (MC.tL (MC.tL (MC.tI (MC.tI (MC.tI hCV hO (by decide) rfl) hO (by decide) rfl) hO (by decide) rfl) hO (by decide) rfl) hO (by decide) rfl) hO (by decide) rfl) hO (by decide) rfl) hO (by decide) rfl) (MI.tL (MI.tL (MI.tL (MI.tL (MI.tL (MI.tI (MI.tI (MI.tI hIV hO rfl (Or.inl (dq 70 s _ (by omega)))) hO rfl (Or.inl (dq 70 s _ (by omega)))) hO rfl (Or.inl (dq 70 s _ (by omega)))) hO rfl (Or.inl (dq 70 s _ (by omega)))) hO rfl (Or.inl (dq 70 s _ (by omega)))) hO rfl (Or.inl (dq 70 s _ (by omega)))) hO rfl (Or.inl (dq 70 s _ (by omega)))) hO rfl (Or.inl (dq 70 s _ (by omega)))) ?_ (fun q => ?_)
          · funext q; simp only [haI, haL, n230_237, n230_238, n230_239, false_and, if_false]; rw [v0]
          · have e3 := vs q
            have e4 := vs (70 * s + j + nn)
            rw [if_neg (by omega)] at e4
            unfold spv at e3 e4 ⊢
            simp only [haI, haL, n230_237, n230_238, n230_239, n230_240, n230_241, n230_242, n230_243, n230_244, n237_230, n237_238, n237_239, n237_240, n237_241, n237_242, n237_243, n237_244, n238_230, n238_237, n238_239, n238_240, n238_241, n238_242, n238_243, n238_244, n239_230, n239_237, n239_238, n239_240, n239_241, n239_242, n239_243, n239_244, n240_230, n240_237, n240_238, n240_239, n240_241, n240_242, n240_243, n240_244, n241_230, n241_237, n241_238, n241_239, n241_240, n241_242, n241_243, n241_244, n242_230, n242_237, n242_238, n242_239, n242_240, n242_241, n242_243, n242_244, n243_230, n243_237, n243_238, n243_239, n243_240, n243_241, n243_242, n243_244, n244_230, n244_237, n244_238, n244_239, n244_240, n244_241, n244_242, n244_243, false_and, if_false, true_and]
            by_cases c : q = 70 * s + j
            · simp only [c, if_true]
              rw [if_pos (by omega)]
              exact e4
            · simp only [c, if_false]
              rw [e3]
              by_cases c2 : 70 * s ≤ q ∧ q < 70 * s + j
              · rw [if_pos c2, if_pos (by omega)]
              · rw [if_neg c2, if_neg (by omega)]
      have l0 : (70 : Int32) * nI s = nI (70 * s) := nI_mul 70 s
      refine e_g2 hG [(49, [0, 1, 2, 3, 4])] 60 ?_
      simp only [e_wp_s, Option.getD_some, Option.isSome_some, Option.isSome_none, xis0, xis1, xis2, xis3, xis4, e_ks, lk_k, lk_c, List.lookup_nil, gt_c, vi_i, k1_n, k1_c, k2_n, k2_c, ar_n, ar_c, pk_n, pk_c, rm_0, rm_1, rm_2, rm_3, rm_4, rm_5, rc_9, rcs, fvs, rf_s, rf_n, isI_i, isL_l, isR_r, isR_n, isR_q, ct_i, ct_l, ct_r, ct_n, ct_q, tFs, tCs, tKs, tJs, tSs, e_nf, lgs, ↓reduceIte, true_and, and_true, false_and, and_false, or_true, true_or, false_or, or_false, Nat.reduceAdd, Nat.reduceEqDiff, Nat.reduceDiv, Nat.reduceLT, Nat.reduceLeDiff, Nat.zero_add, reduceCtorEq, Bool.false_eq_true, Option.toList_some, Option.toList_none, List.cons_append, List.nil_append, not_true_eq_false, not_false_eq_true, Nat.sub_zero, dsX7_drop_0, dsX7_drop_1, dsX7_drop_2, jsX7_drop, xcX7_drop, l0]
      exact loop (sp.length - nn) 0 M (by omega) MC.rf MI.rf rfl (fun q => by rw [if_neg (by omega)])
    have scnt : ∀ d j, j + d = sp.length → j + dpS t (sp.drop j) = nn → G 12 [(0, .ref m), (1, .int (nI s)), (2, .int t), (3, .int (nI j))] [] M 0 0 := by
      obtain ⟨r230, k230, l230⟩ : mR M 230 m = some (A 230) ∧ mK M (A 230) = 9 ∧ mN M (A 230) = 8 := hM.2 230 rfl
      obtain ⟨r238, k238, l238⟩ : mR M 238 m = some (A 238) ∧ mK M (A 238) = 9 ∧ mN M (A 238) = 560 := hM.2 238 rfl
      have sl := hSp.1
      intro d
      induction d with
      | zero =>
        intro j hj he
        have e1 : ¬ nI j < nI sp.length := nI_nlt (by omega) (by omega)
        rw [List.drop_eq_nil_of_le (by omega), dpS] at he
        refine e_g2 hG [(43, [0, 1, 2, 3])] 60 ?_
        simp only [e_wp_s, Option.getD_some, Option.isSome_some, Option.isSome_none, xis0, xis1, xis2, xis3, xis4, e_ks, lk_k, lk_c, List.lookup_nil, gt_c, vi_i, k1_n, k1_c, k2_n, k2_c, ar_n, ar_c, pk_n, pk_c, rm_0, rm_1, rm_2, rm_3, rm_4, rm_5, rc_9, rcs, fvs, rf_s, rf_n, isI_i, isL_l, isR_r, isR_n, isR_q, ct_i, ct_l, ct_r, ct_n, ct_q, tFs, tCs, tKs, tJs, tSs, e_nf, lgs, ↓reduceIte, true_and, and_true, false_and, and_false, or_true, true_or, false_or, or_false, Nat.reduceAdd, Nat.reduceEqDiff, Nat.reduceDiv, Nat.reduceLT, Nat.reduceLeDiff, Nat.zero_add, reduceCtorEq, Bool.false_eq_true, Option.toList_some, Option.toList_none, List.cons_append, List.nil_append, not_true_eq_false, not_false_eq_true, Nat.sub_zero, dsX7_drop_0, dsX7_drop_1, dsX7_drop_2, jsX7_drop, xcX7_drop, h0, r230, k230, l230, sc, sv, sl, e1]
        rw [show j = nn by omega]
        exact spns
      | succ d ih =>
        intro j hj he
        have e1 : nI j < nI sp.length := nI_lt (by omega) (by omega)
        obtain ⟨x, hx⟩ : ∃ x, sp[j]? = some x := ⟨_, List.getElem?_eq_getElem (by omega)⟩
        obtain ⟨w1, w2, w3⟩ := mSp_at hSp hx
        have y2 : aI M (A 238) (70 * s + j) = x.2.1 := by rw [← w1]; rfl
        have i1 : (nI (70 * s + j)).toNatClampNeg = 70 * s + j := nI_clamp (by omega)
        have i2 : vp_in (nI (70 * s + j)) 560 := vp_in_nI (by omega) (by decide)
        rw [drop_at hx, dpS] at he
        by_cases c : t < x.2.1
        · rw [if_pos c] at he
          refine e_g2 hG [(43, [0, 1, 2, 3])] 60 ?_
          simp only [e_wp_s, Option.getD_some, Option.isSome_some, Option.isSome_none, xis0, xis1, xis2, xis3, xis4, e_ks, lk_k, lk_c, List.lookup_nil, gt_c, vi_i, k1_n, k1_c, k2_n, k2_c, ar_n, ar_c, pk_n, pk_c, rm_0, rm_1, rm_2, rm_3, rm_4, rm_5, rc_9, rcs, fvs, rf_s, rf_n, isI_i, isL_l, isR_r, isR_n, isR_q, ct_i, ct_l, ct_r, ct_n, ct_q, tFs, tCs, tKs, tJs, tSs, e_nf, lgs, ↓reduceIte, true_and, and_true, false_and, and_false, or_true, true_or, false_or, or_false, Nat.reduceAdd, Nat.reduceEqDiff, Nat.reduceDiv, Nat.reduceLT, Nat.reduceLeDiff, Nat.zero_add, reduceCtorEq, Bool.false_eq_true, Option.toList_some, Option.toList_none, List.cons_append, List.nil_append, not_true_eq_false, not_false_eq_true, Nat.sub_zero, dsX7_drop_0, dsX7_drop_1, dsX7_drop_2, jsX7_drop, xcX7_drop, h0, r230, k230, l230, r238, k238, l238, sc, sv, sl, e1, l70, i1, i2, y2, c]
          rw [show j = nn by omega]
          exact spns
        · rw [if_neg c] at he
          refine e_g2 hG [(12, [0, 1, 2, 3])] 60 ?_
          simp only [e_wp_s, Option.getD_some, Option.isSome_some, Option.isSome_none, xis0, xis1, xis2, xis3, xis4, e_ks, lk_k, lk_c, List.lookup_nil, gt_c, vi_i, k1_n, k1_c, k2_n, k2_c, ar_n, ar_c, pk_n, pk_c, rm_0, rm_1, rm_2, rm_3, rm_4, rm_5, rc_9, rcs, fvs, rf_s, rf_n, isI_i, isL_l, isR_r, isR_n, isR_q, ct_i, ct_l, ct_r, ct_n, ct_q, tFs, tCs, tKs, tJs, tSs, e_nf, lgs, ↓reduceIte, true_and, and_true, false_and, and_false, or_true, true_or, false_or, or_false, Nat.reduceAdd, Nat.reduceEqDiff, Nat.reduceDiv, Nat.reduceLT, Nat.reduceLeDiff, Nat.zero_add, reduceCtorEq, Bool.false_eq_true, Option.toList_some, Option.toList_none, List.cons_append, List.nil_append, not_true_eq_false, not_false_eq_true, Nat.sub_zero, dsX7_drop_0, dsX7_drop_1, dsX7_drop_2, jsX7_drop, xcX7_drop, h0, r230, k230, l230, r238, k238, l238, sc, sv, sl, e1, l70, i1, i2, y2, c, nI_1]
          exact ih (j + 1) (by omega) (by omega)
    refine e_g2 hG [(12, [0, 1, 2, 3])] 60 ?_
    simp only [e_wp_s, Option.getD_some, Option.isSome_some, Option.isSome_none, xis0, xis1, xis2, xis3, xis4, e_ks, lk_k, lk_c, List.lookup_nil, gt_c, vi_i, k1_n, k1_c, k2_n, k2_c, ar_n, ar_c, pk_n, pk_c, rm_0, rm_1, rm_2, rm_3, rm_4, rm_5, rc_9, rcs, fvs, rf_s, rf_n, isI_i, isL_l, isR_r, isR_n, isR_q, ct_i, ct_l, ct_r, ct_n, ct_q, tFs, tCs, tKs, tJs, tSs, e_nf, lgs, ↓reduceIte, true_and, and_true, false_and, and_false, or_true, true_or, false_or, or_false, Nat.reduceAdd, Nat.reduceEqDiff, Nat.reduceDiv, Nat.reduceLT, Nat.reduceLeDiff, Nat.zero_add, reduceCtorEq, Bool.false_eq_true, Option.toList_some, Option.toList_none, List.cons_append, List.nil_append, not_true_eq_false, not_false_eq_true, Nat.sub_zero, dsX7_drop_0, dsX7_drop_1, dsX7_drop_2, jsX7_drop, xcX7_drop, h0, h6, i10, ↓sp_X7_isSeries]
    exact scnt sp.length 0 (by omega) (by rw [Nat.zero_add]; exact hnn)
