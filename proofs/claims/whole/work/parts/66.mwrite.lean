/-! the reference: what changes; a block written -/
def MC (O : GH) (A : Nat → Nat) (m : Nat) (fs : List Nat) (M U : HM) : Prop := mK U = mK M ∧ mN U = mN M ∧ mR U = mR M ∧ Fr (Ss m) O O M U ∧ (∀ f, isA f = true → f ∉ fs → aI U (A f) = aI M (A f) ∧ aL U (A f) = aL M (A f)) ∧ ∀ g, g ∉ fs → mI U g m = mI M g m
theorem MC.rf {O : GH} {A : Nat → Nat} {m : Nat} {fs : List Nat} {M : HM} : MC O A m fs M M := ⟨rfl, rfl, rfl, Fr.rf, fun _ _ _ => ⟨rfl, rfl⟩, fun _ _ => rfl⟩
theorem MC.tr {O : GH} {A : Nat → Nat} {m : Nat} {fs : List Nat} {M U V : HM} (h : MC O A m fs M U) (g : MC O A m fs U V) : MC O A m fs M V :=
  ⟨g.1.trans h.1, g.2.1.trans h.2.1, g.2.2.1.trans h.2.2.1, h.2.2.2.1.tr g.2.2.2.1, fun f hf hn => ⟨(g.2.2.2.2.1 f hf hn).1.trans (h.2.2.2.2.1 f hf hn).1, (g.2.2.2.2.1 f hf hn).2.trans (h.2.2.2.2.1 f hf hn).2⟩, fun f hn => (g.2.2.2.2.2 f hn).trans (h.2.2.2.2.2 f hn)⟩
theorem MC.mono {O : GH} {A : Nat → Nat} {m : Nat} {fs gs : List Nat} {M U : HM} (h : MC O A m fs M U) (hs : ∀ f, f ∈ fs → f ∈ gs) : MC O A m gs M U :=
  ⟨h.1, h.2.1, h.2.2.1, h.2.2.2.1, fun f hf hn => h.2.2.2.2.1 f hf (fun q => hn (hs f q)), fun f hn => h.2.2.2.2.2 f (fun q => hn (hs f q))⟩
theorem MC.ms {O : GH} {A : Nat → Nat} {m : Nat} {fs : List Nat} {M U : HM} (h : MC O A m fs M U) (hM : MS A M m) : MS A U m := hM.of h.1 h.2.1 h.2.2.1
theorem MC.tI {O : GH} {A : Nat → Nat} {m f i : Nat} {v : Int32} {fs : List Nat} {M U : HM} (h : MC O A m fs M U) (hO : GO O A m) (hf : f ∈ fs) (ha : isA f = true) : MC O A m fs M (tI U (A f) i v) := by
  refine h.tr ⟨by simp only [hmK], by simp only [hmN], by simp only [hmR], fr_K (by simp only [hmK]) (fun a hs => sm_tI (fun e => hs (by show (O a).1 = m; rw [e, hO.2 f ha])) Sm.rf), fun g hg hn => ?_, fun g _ => by simp only [hmI]⟩
  have ne : ¬ A g = A f := hO.ne hg ha (fun e => hn (by rw [e]; exact hf))
  refine ⟨?_, by simp only [haL]⟩
  funext j
  simp only [haI, ne, false_and, if_false]
theorem MC.tL {O : GH} {A : Nat → Nat} {m f i : Nat} {v : Int64} {fs : List Nat} {M U : HM} (h : MC O A m fs M U) (hO : GO O A m) (hf : f ∈ fs) (ha : isA f = true) : MC O A m fs M (tL U (A f) i v) := by
  refine h.tr ⟨by simp only [hmK], by simp only [hmN], by simp only [hmR], fr_K (by simp only [hmK]) (fun a hs => sm_tL (fun e => hs (by show (O a).1 = m; rw [e, hO.2 f ha])) Sm.rf), fun g hg hn => ?_, fun g _ => by simp only [hmI]⟩
  have ne : ¬ A g = A f := hO.ne hg ha (fun e => hn (by rw [e]; exact hf))
  refine ⟨by simp only [haI], ?_⟩
  funext j
  simp only [haL, ne, false_and, if_false]
theorem MC.sI {O : GH} {A : Nat → Nat} {m f : Nat} {v : Int32} {fs : List Nat} {M U : HM} (h : MC O A m fs M U) (hO : GO O A m) (hf : f ∈ fs) : MC O A m fs M (sI U f m v) := by
  refine h.tr ⟨by simp only [hmK], by simp only [hmN], by simp only [hmR], fr_K (by simp only [hmK]) (fun a hs => sm_sI (fun e => hs (by show (O a).1 = m; rw [e, hO.1])) Sm.rf), fun g hg hn => ⟨by simp only [haI], by simp only [haL]⟩, fun g hn => ?_⟩
  have ne : ¬ g = f := fun e => hn (by rw [e]; exact hf)
  simp only [hmI, ne, false_and, if_false]
theorem MC.wr {O : GH} {A : Nat → Nat} {m p : Nat} {bs : List Bool} {fs : List Nat} {M U : HM} (h : MC O A m fs M U) (hO : GO O A m) (h1 : 245 ∈ fs) (h2 : 247 ∈ fs) : MC O A m fs M (wr7 A U m p bs) := by
  unfold wr7
  refine MC.sI (h.tr ?_) hO h2
  refine ⟨by simp only [hmU], by simp only [hmU], by simp only [hmU], fr_K (by simp only [hmU]) (fun a hs => sm_uI (fun e => hs (by show (O a).1 = m; rw [e, hO.2 245 rfl])) Sm.rf), fun g hg hn => ?_, fun g _ => by simp only [hmU]⟩
  have ne : ¬ A g = A 245 := hO.ne hg rfl (fun e => hn (by rw [e]; exact h1))
  exact ⟨by simp only [hmU, ne, if_false], by simp only [hmU]⟩
theorem wbl_loc : ∀ (bs : List Bool) (g h : Nat → Int32) (p j : Nat), g j = h j → wbl g p bs j = wbl h p bs j
  | [], g, h, p, j, e => e
  | v :: bs, g, h, p, j, e => by
    rw [wbl, wbl]
    refine wbl_loc bs _ _ _ _ ?_
    unfold wb1
    rw [e]
/-- times that may be -/
def tmO (l : List PT) : Prop := ∀ p, p ∈ l → 0 ≤ p.1.toInt ∧ p.1.toInt ≤ 1000000000
theorem i_sub_toInt {x y : Int32} (h1 : -2147483648 ≤ x.toInt - y.toInt) (h2 : x.toInt - y.toInt ≤ 2147483647) : (x - y).toInt = x.toInt - y.toInt := by
  rw [Int32.toInt_sub, Int.bmod_eq_of_le] <;> omega
theorem l_sub {x y : Int32} (h1 : -2147483648 ≤ x.toInt - y.toInt) (h2 : x.toInt - y.toInt ≤ 2147483647) : x.toInt64 - y.toInt64 = (x - y).toInt64 := by
  apply Int64.toInt_inj.mp
  rw [Int64.toInt_sub, Int32.toInt_toInt64, Int32.toInt_toInt64, Int32.toInt_toInt64, i_sub_toInt h1 h2, Int.bmod_eq_of_le] <;> omega
theorem eS_b : ∀ l : List PT, tmO l → -1000000000 ≤ (eS (enc l)).toInt ∧ (eS (enc l)).toInt ≤ 1000000000 := by
  intro l
  rcases nil_snoc l with rfl | ⟨r, p, rfl⟩
  · intro _; exact ⟨by decide, by decide⟩
  · intro h
    rcases nil_snoc r with rfl | ⟨r', q, rfl⟩
    · exact ⟨by show _ ≤ (0 : Int32).toInt; decide, by show (0 : Int32).toInt ≤ _; decide⟩
    · rw [enc_snoc p (by simp)]
      show -1000000000 ≤ (p.1 - eT (enc (r' ++ [q]))).toInt ∧ (p.1 - eT (enc (r' ++ [q]))).toInt ≤ 1000000000
      rw [(enc_T r' q).1]
      have h1 := h p (by simp)
      have h2 := h q (by simp)
      rw [i_sub_toInt (by omega) (by omega)]
      omega
theorem b10 (x : Int64) {c : Nat} (hc : c < 64) : ((x >>> ((nI c).toInt64 &&& 63) &&& 1) = 0) = (tb x c = false) := by
  apply propext
  have h := tb_sar x (k := c) (i := 0) (by omega)
  rw [Nat.add_zero] at h
  rw [← h]
  generalize x >>> ((nI c).toInt64 &&& 63) = y
  constructor
  · intro e
    have h1 : tb (y &&& 1) 0 = (tb y 0 && tb 1 0) := by unfold tb; rw [Int64.toBitVec_and, BitVec.getLsbD_and]
    rw [e, tb_0, tb_1 (by decide)] at h1
    simpa using h1.symm
  · intro e
    apply l_ext
    intro i hi
    have h1 : tb (y &&& 1) i = (tb y i && tb 1 i) := by unfold tb; rw [Int64.toBitVec_and, BitVec.getLsbD_and]
    rw [h1, tb_1 hi, tb_0]
    by_cases c : i = 0
    · rw [c, e]; rfl
    · simp [c]
theorem nb_sar (x : Int64) {k c : Nat} (h : k + c ≤ 64) (hk : k < 64) : nb (x >>> ((nI k).toInt64 &&& 63)) c = nb (ush x (nI k)) c := nb_low c (fun i hi => by rw [tb_sar x (by omega), tb_ush x hk (by omega)])
def cst (l : List PT) (k : Nat) : Int32 := nI (eB (enc (l.take (k + 1)))).length - nI (eB (enc (l.take k))).length
def LW (l : List PT) (ld wd : Int32) : Prop := wd = eW (enc l) ∧ ((eW (enc l) = 0 ∧ ld = -1) ∨ (0 < eW (enc l) ∧ ld = eF (enc l)))
def csX7_write : CS := (cs_c 0 115 3 7 sp_X7_start (cs_c 0 155 3 7 sp_X7_bits (cs_c 0 111 3 7 sp_X7_spot (cs_c 0 158 2 7 sp_X7_step (cs_c 0 130 2 7 sp_X7_bit cs_0)))))
theorem csoX7_write : ∀ op x na cl sp, csX7_write op x = some (na, cl, sp) → CallOK 7 3 68 op x na cl sp := (cs_c_ok (caX7_write_115 okX7_start) (cs_c_ok (caX7_write_155 okX7_bits) (cs_c_ok (caX7_write_111 okX7_spot) (cs_c_ok (caX7_write_158 okX7_step) (cs_c_ok (caX7_write_130 okX7_bit) cs_0_ok)))))
theorem xcX7_write : (∀ (Q : QT) (G : GT) (pc : Nat) (L : LV) (a0 a1 a2 : Value) (r : List Value) (M : HM) (k n : Nat), ex_i 7 17 0 false csX7_write Q G (.invokevirtual 115) pc L (a2 :: a1 :: a0 :: r) M k n = (e_rm r ∧ e_rc M 7 [a0, a1, a2] ∧ sp_X7_start [a0, a1, a2] M k n (fun v M' k' n' => G (pc + 3) L (v.toList ++ r) M' k' n'))) ∧ (∀ (Q : QT) (G : GT) (pc : Nat) (L : LV) (a0 a1 a2 : Value) (r : List Value) (M : HM) (k n : Nat), ex_i 7 17 0 false csX7_write Q G (.invokevirtual 155) pc L (a2 :: a1 :: a0 :: r) M k n = (e_rm r ∧ e_rc M 7 [a0, a1, a2] ∧ sp_X7_bits [a0, a1, a2] M k n (fun v M' k' n' => G (pc + 3) L (v.toList ++ r) M' k' n'))) ∧ (∀ (Q : QT) (G : GT) (pc : Nat) (L : LV) (a0 a1 a2 : Value) (r : List Value) (M : HM) (k n : Nat), ex_i 7 17 0 false csX7_write Q G (.invokevirtual 111) pc L (a2 :: a1 :: a0 :: r) M k n = (e_rm r ∧ e_rc M 7 [a0, a1, a2] ∧ sp_X7_spot [a0, a1, a2] M k n (fun v M' k' n' => G (pc + 3) L (v.toList ++ r) M' k' n'))) ∧ (∀ (Q : QT) (G : GT) (pc : Nat) (L : LV) (a0 a1 : Value) (r : List Value) (M : HM) (k n : Nat), ex_i 7 17 0 false csX7_write Q G (.invokevirtual 158) pc L (a1 :: a0 :: r) M k n = (e_rm r ∧ e_rc M 7 [a0, a1] ∧ sp_X7_step [a0, a1] M k n (fun v M' k' n' => G (pc + 3) L (v.toList ++ r) M' k' n'))) ∧ (∀ (Q : QT) (G : GT) (pc : Nat) (L : LV) (a0 a1 : Value) (r : List Value) (M : HM) (k n : Nat), ex_i 7 17 0 false csX7_write Q G (.invokevirtual 130) pc L (a1 :: a0 :: r) M k n = (e_rm r ∧ e_rc M 7 [a0, a1] ∧ sp_X7_bit [a0, a1] M k n (fun v M' k' n' => G (pc + 3) L (v.toList ++ r) M' k' n'))) := ⟨(fun _ _ _ _ _ _ _ _ _ _ _ => xv0_3 rfl), (fun _ _ _ _ _ _ _ _ _ _ _ => xv0_3 rfl), (fun _ _ _ _ _ _ _ _ _ _ _ => xv0_3 rfl), (fun _ _ _ _ _ _ _ _ _ _ => xv0_2 rfl), (fun _ _ _ _ _ _ _ _ _ _ => xv0_2 rfl)⟩
def sp_X7_write : SP := fun as M k n Q => match as with
  | [.ref m, .int i, .int j] => ∃ O A s b bk x, MS A M m ∧ GO O A m ∧ s < 8 ∧ mB A M s bk ∧ mP A M s (mpts bk) ∧ i = nI s ∧ j = nI b ∧ bk[b]? = some x ∧ tmO x.1 ∧ ∀ U, MC O A m [245, 246, 247] M U → (∀ k, k < 256 → aI U (A 245) k = byt (eB (enc x.1)) k) → mI U 247 m = nI (eB (enc x.1)).length → (∀ k, k < x.1.length → aI U (A 246) k = cst x.1 k) → Q none U k n
  | _ => False
set_option maxHeartbeats 1000000 in
theorem okX7_write : OkX7_write sp_X7_write := by
  refine inX7_write csoX7_write ?_
  intro as M k n Q hsp
  unfold sp_X7_write at hsp
  split at hsp
  rotate_left
  · exact hsp.elim
  rename_i m i j
  obtain ⟨O, A, s, b, bk, x, hM, hO, hs, hB, hP, rfl, rfl, hx, htm, hq⟩ := hsp
  have hb := (List.getElem?_eq_some_iff.mp hx).1
  have hbl := hB.2.1
  obtain ⟨hxn, h16, -⟩ := hB.2.2.2 x (List.mem_of_getElem? hx)
  have hsz := (hB.2.2.1 b x hx).1
  have hp300 := hP.2.1
  generalize hst : (mpts (bk.take b)).length = st at *
  have hat : ∀ k p, x.1[k]? = some p → aI M (A 231) (320 * s + st + k) = p.1 ∧ aL M (A 234) (320 * s + st + k) = p.2 ∧ k < x.1.length ∧ st + k < 300 := fun k p hk => by
    have hkl := (List.getElem?_eq_some_iff.mp hk).1
    have h1 := mpts_at hx hkl
    rw [hk, hst] at h1
    obtain ⟨w1, w2, w3, w4⟩ := mP_at hP h1
    rw [Nat.add_assoc]
    exact ⟨w1, w2, hkl, w4⟩
  have f2 : (nI (320 * s + b)).toNatClampNeg = 320 * s + b := nI_clamp (by omega)
  have f3 : vp_in (nI (320 * s + b)) 2560 := vp_in_nI (by omega) (by decide)
  have hlen : ∀ k, (eB (enc (x.1.take k))).length ≤ 1806 := fun k => enc_1808 (by rw [List.length_take]; omega)
  refine ⟨0, 0, Nat.zero_le _, Nat.zero_le _, Nat.le_of_ble_eq_true rfl, fun G hG => ?_⟩
  -- the points behind the first
  have loop : ∀ d k U ld wd, k + d = x.1.length → 0 < k → MC O A m [245, 246, 247] M U → (∀ j, j < 256 → aI U (A 245) j = byt (eB (enc (x.1.take k))) j) → mI U 247 m = nI (eB (enc (x.1.take k))).length → (∀ j, j < k → aI U (A 246) j = cst x.1 j) → LW (x.1.take k) ld wd → G 79 [(0, .ref m), (1, .int (nI s)), (2, .int (nI b)), (3, .int (nI (320 * s + st))), (4, .long (eS (enc (x.1.take k))).toInt64), (6, .int ld), (7, .int wd), (8, .int (nI k))] [] U 0 0 := by
    intro d
    induction d with
    | zero =>
      intro k U ld wd hk h0k hC hby hbi hco hLW
      have hMU := hC.ms hM
      have g0 := hMU.1
      obtain ⟨r232, k232, l232⟩ : mR U 232 m = some (A 232) ∧ mK U (A 232) = 9 ∧ mN U (A 232) = 2560 := hMU.2 232 rfl
      have e1 : ¬ nI k < nI x.1.length := nI_nlt (by omega) (by omega)
      have e4 : aI U (A 232) (320 * s + b) = nI x.1.length := by rw [(hC.2.2.2.2.1 232 rfl (by decide)).1]; exact hsz
      have ek : x.1.take k = x.1 := List.take_of_length_le (by omega)
      rw [ek] at hby hbi
      refine e_g2 hG [] 60 ?_
      simp only [e_wp_s, Option.getD_some, Option.isSome_some, Option.isSome_none, xis0, xis1, xis2, xis3, xis4, e_ks, lk_k, lk_c, List.lookup_nil, gt_c, vi_i, k1_n, k1_c, k2_n, k2_c, ar_n, ar_c, pk_n, pk_c, rm_0, rm_1, rm_2, rm_3, rm_4, rm_5, rc_9, rcs, fvs, rf_s, rf_n, isI_i, isL_l, isR_r, isR_n, isR_q, ct_i, ct_l, ct_r, ct_n, ct_q, tFs, tCs, tKs, tJs, tSs, e_nf, lgs, ↓reduceIte, true_and, and_true, false_and, and_false, or_true, true_or, false_or, or_false, Nat.reduceAdd, Nat.reduceEqDiff, Nat.reduceDiv, Nat.reduceLT, Nat.reduceLeDiff, Nat.zero_add, reduceCtorEq, Bool.false_eq_true, Option.toList_some, Option.toList_none, List.cons_append, List.nil_append, not_true_eq_false, not_false_eq_true, Nat.sub_zero, dsX7_write_0, dsX7_write_1, jsX7_write, xcX7_write, g0, r232, k232, l232, f2, f3, e1, e4, ↓sp_X7_spot, spt]
      exact hq U hC hby hbi (fun j hj => hco j (by omega))
    | succ d ih =>
      intro k U ld wd hk h0k hC hby hbi hco hLW
      have hMU := hC.ms hM
      have g0 := hMU.1
      obtain ⟨r231, k231, l231⟩ : mR U 231 m = some (A 231) ∧ mK U (A 231) = 9 ∧ mN U (A 231) = 2560 := hMU.2 231 rfl
      obtain ⟨r232, k232, l232⟩ : mR U 232 m = some (A 232) ∧ mK U (A 232) = 9 ∧ mN U (A 232) = 2560 := hMU.2 232 rfl
      obtain ⟨r234, k234, l234⟩ : mR U 234 m = some (A 234) ∧ mK U (A 234) = 10 ∧ mN U (A 234) = 2560 := hMU.2 234 rfl
      have e1 : nI k < nI x.1.length := nI_lt (by omega) (by omega)
      have e4 : aI U (A 232) (320 * s + b) = nI x.1.length := by rw [(hC.2.2.2.2.1 232 rfl (by decide)).1]; exact hsz
      obtain ⟨q, hq1⟩ : ∃ q, x.1[k]? = some q := ⟨_, List.getElem?_eq_getElem (by omega)⟩
      obtain ⟨p, hp1⟩ : ∃ p, x.1[k - 1]? = some p := ⟨_, List.getElem?_eq_getElem (by omega)⟩
      obtain ⟨q2, q3, -, q5⟩ := hat k q hq1
      obtain ⟨p2, p3, -, p5⟩ := hat (k - 1) p hp1
      rw [← (hC.2.2.2.2.1 231 rfl (by decide)).1] at q2 p2
      rw [← (hC.2.2.2.2.1 234 rfl (by decide)).2] at q3 p3
      have i1 : (nI (320 * s + st + k)).toNatClampNeg = 320 * s + st + k := nI_clamp (by omega)
      have i2 : vp_in (nI (320 * s + st + k)) 2560 := vp_in_nI (by omega) (by decide)
      have i3 : nI (320 * s + st + k) - 1 = nI (320 * s + st + (k - 1)) := by
        have := nI_pred (320 * s + st + (k - 1))
        rw [show 320 * s + st + (k - 1) + 1 = 320 * s + st + k by omega] at this
        exact this
      have i4 : (nI (320 * s + st + (k - 1))).toNatClampNeg = 320 * s + st + (k - 1) := nI_clamp (by omega)
      have i5 : vp_in (nI (320 * s + st + (k - 1))) 2560 := vp_in_nI (by omega) (by decide)
      have htk : x.1.take (k + 1) = x.1.take k ++ [q] := take_1 hq1
      have htk1 : x.1.take k = x.1.take (k - 1) ++ [p] := by
        have := take_1 hp1
        rw [show k - 1 + 1 = k by omega] at this
        exact this
      have hne : x.1.take k ≠ [] := by rw [htk1]; simp
      have hT : eT (enc (x.1.take k)) = p.1 := by rw [htk1]; exact (enc_T _ p).1
      have hV : eV (enc (x.1.take k)) = p.2 := by rw [htk1]; exact (enc_T _ p).2
      have hen : enc (x.1.take (k + 1)) = enN (enc (x.1.take k)) q := by rw [htk]; exact enc_snoc q hne
      have tq := htm q (List.mem_of_getElem? hq1)
      have tp := htm p (List.mem_of_getElem? hp1)
      have tS := eS_b (x.1.take k) (fun r hr => htm r (List.mem_of_mem_take hr))
      have hd1 : (q.1 - p.1).toInt = q.1.toInt - p.1.toInt := i_sub_toInt (by omega) (by omega)
      have hd2 : (q.1 - p.1).toInt64 - (eS (enc (x.1.take k))).toInt64 = (q.1 - p.1 - eS (enc (x.1.take k))).toInt64 := l_sub (by rw [hd1]; omega) (by rw [hd1]; omega)
      have hL1 := hlen k
      have hL2 := hlen (k + 1)
      rw [hen] at hL2
      have hL2' : (eB (enc (x.1.take k)) ++ (scb (q.1 - eT (enc (x.1.take k)) - eS (enc (x.1.take k))) ++ vbits (eF (enc (x.1.take k))) (eW (enc (x.1.take k))) (q.2 ^^^ eV (enc (x.1.take k))))).length ≤ 1806 := hL2
      rw [List.length_append, List.length_append, hT, hV] at hL2'
      have hS' : eS (enc (x.1.take (k + 1))) = q.1 - p.1 := by rw [hen]; show q.1 - eT (enc (x.1.take k)) = _; rw [hT]
      -- the end of a round
      have fin : ∀ U' ld' wd', MC O A m [245, 246, 247] M U' → (∀ j, j < 256 → aI U' (A 245) j = byt (eB (enc (x.1.take (k + 1)))) j) → mI U' 247 m = nI (eB (enc (x.1.take (k + 1)))).length → (∀ j, j < k → aI U' (A 246) j = cst x.1 j) → LW (x.1.take (k + 1)) ld' wd' → G 328 [(0, .ref m), (1, .int (nI s)), (2, .int (nI b)), (3, .int (nI (320 * s + st))), (4, .long (q.1 - p.1).toInt64), (6, .int ld'), (7, .int wd'), (8, .int (nI k)), (9, .int (nI (eB (enc (x.1.take k))).length))] [] U' 0 0 := by
        intro U' ld' wd' hC' hby' hbi' hco' hLW'
        have hMU' := hC'.ms hM
        have y0 := hMU'.1
        obtain ⟨r246, k246, l246⟩ : mR U' 246 m = some (A 246) ∧ mK U' (A 246) = 9 ∧ mN U' (A 246) = 16 := hMU'.2 246 rfl
        have j1 : (nI k).toNatClampNeg = k := nI_clamp (by omega)
        have j2 : vp_in (nI k) 16 := vp_in_nI (by omega) (by decide)
        refine e_g2 hG [(79, [0, 1, 2, 3, 4, 6, 7, 8])] 60 ?_
        simp only [e_wp_s, Option.getD_some, Option.isSome_some, Option.isSome_none, xis0, xis1, xis2, xis3, xis4, e_ks, lk_k, lk_c, List.lookup_nil, gt_c, vi_i, k1_n, k1_c, k2_n, k2_c, ar_n, ar_c, pk_n, pk_c, rm_0, rm_1, rm_2, rm_3, rm_4, rm_5, rc_9, rcs, fvs, rf_s, rf_n, isI_i, isL_l, isR_r, isR_n, isR_q, ct_i, ct_l, ct_r, ct_n, ct_q, tFs, tCs, tKs, tJs, tSs, e_nf, lgs, ↓reduceIte, true_and, and_true, false_and, and_false, or_true, true_or, false_or, or_false, Nat.reduceAdd, Nat.reduceEqDiff, Nat.reduceDiv, Nat.reduceLT, Nat.reduceLeDiff, Nat.zero_add, reduceCtorEq, Bool.false_eq_true, Option.toList_some, Option.toList_none, List.cons_append, List.nil_append, not_true_eq_false, not_false_eq_true, Nat.sub_zero, dsX7_write_0, dsX7_write_1, jsX7_write, xcX7_write, y0, r246, k246, l246, j1, j2, hbi', nI_1]
        rw [← hS']
        refine ih (k + 1) _ ld' wd' (by omega) (by omega) (hC'.tI hO (by decide) rfl) (fun j hj => ?_) ?_ (fun j hj => ?_) hLW'
        · have ne : ¬ A 245 = A 246 := hO.ne rfl rfl (by decide)
          simp only [haI, ne, false_and, if_false]; exact hby' j hj
        · simp only [hmI]; exact hbi'
        · simp only [haI, true_and]
          by_cases c : j = k
          · rw [if_pos c, c]; rfl
          · rw [if_neg c]; exact hco' j (by omega)
      refine e_g2 hG [(134, [0, 1, 2, 3, 6, 7, 8, 9, 10])] 60 ?_
      simp only [e_wp_s, Option.getD_some, Option.isSome_some, Option.isSome_none, xis0, xis1, xis2, xis3, xis4, e_ks, lk_k, lk_c, List.lookup_nil, gt_c, vi_i, k1_n, k1_c, k2_n, k2_c, ar_n, ar_c, pk_n, pk_c, rm_0, rm_1, rm_2, rm_3, rm_4, rm_5, rc_9, rcs, fvs, rf_s, rf_n, isI_i, isL_l, isR_r, isR_n, isR_q, ct_i, ct_l, ct_r, ct_n, ct_q, tFs, tCs, tKs, tJs, tSs, e_nf, lgs, ↓reduceIte, true_and, and_true, false_and, and_false, or_true, true_or, false_or, or_false, Nat.reduceAdd, Nat.reduceEqDiff, Nat.reduceDiv, Nat.reduceLT, Nat.reduceLeDiff, Nat.zero_add, reduceCtorEq, Bool.false_eq_true, Option.toList_some, Option.toList_none, List.cons_append, List.nil_append, not_true_eq_false, not_false_eq_true, Nat.sub_zero, dsX7_write_0, dsX7_write_1, jsX7_write, xcX7_write, g0, r231, k231, l231, r232, k232, l232, f2, f3, e1, e4, hbi, q2, p2, i1, i2, i3, i4, i5, nI_add, ↓sp_X7_spot, spt, hd2]
      refine ⟨A, _, _, hMU, rfl, hbi, by omega, ?_⟩
      have hC1 : MC O A m [245, 246, 247] M (wr7 A U m (eB (enc (x.1.take k))).length (scb (q.1 - p.1 - eS (enc (x.1.take k))))) := hC.wr hO (by decide) (by decide)
      obtain ⟨u1, u2, u3⟩ := wr7_e (A := A) (M := U) (m := m) (p := (eB (enc (x.1.take k))).length) (bs := scb (q.1 - p.1 - eS (enc (x.1.take k))))
      have u4 : aI (wr7 A U m (eB (enc (x.1.take k))).length (scb (q.1 - p.1 - eS (enc (x.1.take k))))) (A 246) = aI U (A 246) := by
        have ne : ¬ A 246 = A 245 := hO.ne rfl rfl (by decide)
        unfold wr7; simp only [haI, hmU, ne, if_false]
      have hall : ∀ bs, bs = vbits (eF (enc (x.1.take k))) (eW (enc (x.1.take k))) (q.2 ^^^ p.2) → eB (enc (x.1.take (k + 1))) = eB (enc (x.1.take k)) ++ (scb (q.1 - p.1 - eS (enc (x.1.take k))) ++ bs) := fun bs hbs => by
        rw [hen, hbs, ← hT, ← hV]; rfl
      generalize hU1 : wr7 A U m (eB (enc (x.1.take k))).length (scb (q.1 - p.1 - eS (enc (x.1.take k)))) = U1 at *
      generalize hLL : (eB (enc (x.1.take k))).length = LL at *
      generalize hCC : scb (q.1 - p.1 - eS (enc (x.1.take k))) = CC at *
      have hMU1 := hC1.ms hM
      have y0 := hMU1.1
      obtain ⟨rv234, kv234, lv234⟩ : mR U1 234 m = some (A 234) ∧ mK U1 (A 234) = 10 ∧ mN U1 (A 234) = 2560 := hMU1.2 234 rfl
      have q3' : aL U1 (A 234) (320 * s + st + k) = q.2 := by rw [(hC1.2.2.2.2.1 234 rfl (by decide)).2]; rw [(hC.2.2.2.2.1 234 rfl (by decide)).2] at q3; exact q3
      have p3' : aL U1 (A 234) (320 * s + st + (k - 1)) = p.2 := by rw [(hC1.2.2.2.2.1 234 rfl (by decide)).2]; rw [(hC.2.2.2.2.1 234 rfl (by decide)).2] at p3; exact p3
      -- what comes of the bits of the value
      have put : ∀ bs ld' wd', bs = vbits (eF (enc (x.1.take k))) (eW (enc (x.1.take k))) (q.2 ^^^ p.2) → LW (x.1.take (k + 1)) ld' wd' → G 328 [(0, .ref m), (1, .int (nI s)), (2, .int (nI b)), (3, .int (nI (320 * s + st))), (4, .long (q.1 - p.1).toInt64), (6, .int ld'), (7, .int wd'), (8, .int (nI k)), (9, .int (nI LL))] [] (wr7 A U1 m (LL + CC.length) bs) 0 0 := by
        intro bs ld' wd' hbs hLW'
        have hb2 := hall bs hbs
        obtain ⟨t1, t2, t3⟩ := wr7_e (A := A) (M := U1) (m := m) (p := LL + CC.length) (bs := bs)
        refine fin _ ld' wd' (hC1.wr hO (by decide) (by decide)) (fun j hj => ?_) ?_ (fun j hj => ?_) hLW'
        · rw [t3, u3, hb2, ← byt_app, hLL, wbl_app]
          refine wbl_loc _ _ _ _ _ ?_
          exact wbl_loc _ _ _ _ _ (hby j hj)
        · rw [t1, hb2, List.length_append, List.length_append, hLL]; congr 1; omega
        · have ne : ¬ A 246 = A 245 := hO.ne rfl rfl (by decide)
          have : aI (wr7 A U1 m (LL + CC.length) bs) (A 246) = aI U1 (A 246) := by unfold wr7; simp only [haI, hmU, ne, if_false]
          rw [this, u4]; exact hco j hj
      have hvl : ∀ bs, bs = vbits (eF (enc (x.1.take k))) (eW (enc (x.1.take k))) (q.2 ^^^ p.2) → LL + CC.length + bs.length ≤ 1806 := fun bs hbs => by rw [hbs]; omega
      have hEF : eF (enc (x.1.take (k + 1))) = vF (eF (enc (x.1.take k))) (eW (enc (x.1.take k))) (q.2 ^^^ p.2) := by rw [hen, ← hV]; rfl
      have hEW : eW (enc (x.1.take (k + 1))) = vW (eF (enc (x.1.take k))) (eW (enc (x.1.take k))) (q.2 ^^^ p.2) := by rw [hen, ← hV]; rfl
      generalize hX : q.2 ^^^ p.2 = X at *
      obtain ⟨fa, fc, hFa, hFc, hac⟩ := FW_enc (x.1.take k)
      rw [hFa, hFc] at put hvl hEF hEW
      unfold LW at hLW put
      rw [hFa, hFc] at hLW
      rw [hEF, hEW] at put
      by_cases cX : X = 0
      · have hv0 : vbits (nI fa) (nI fc) X = [false] := by unfold vbits; rw [if_pos cX]; rfl
        have hp0 := put [false] ld wd hv0.symm (by
          unfold vF vW; rw [if_pos cX, if_pos cX]; exact hLW)
        refine e_g2 hG [(173, [0, 1, 2, 3, 4, 6, 7, 8, 9])] 60 ?_
        simp only [e_wp_s, Option.getD_some, Option.isSome_some, Option.isSome_none, xis0, xis1, xis2, xis3, xis4, e_ks, lk_k, lk_c, List.lookup_nil, gt_c, vi_i, k1_n, k1_c, k2_n, k2_c, ar_n, ar_c, pk_n, pk_c, rm_0, rm_1, rm_2, rm_3, rm_4, rm_5, rc_9, rcs, fvs, rf_s, rf_n, isI_i, isL_l, isR_r, isR_n, isR_q, ct_i, ct_l, ct_r, ct_n, ct_q, tFs, tCs, tKs, tJs, tSs, e_nf, lgs, ↓reduceIte, true_and, and_true, false_and, and_false, or_true, true_or, false_or, or_false, Nat.reduceAdd, Nat.reduceEqDiff, Nat.reduceDiv, Nat.reduceLT, Nat.reduceLeDiff, Nat.zero_add, reduceCtorEq, Bool.false_eq_true, Option.toList_some, Option.toList_none, List.cons_append, List.nil_append, not_true_eq_false, not_false_eq_true, Nat.sub_zero, dsX7_write_0, dsX7_write_1, jsX7_write, xcX7_write, y0, rv234, kv234, lv234, q3', p3', i1, i2, i3, i4, i5, nI_add, hX, cX]
        refine ⟨A, _, false, hMU1, rfl, u1, by have := hvl [false] hv0.symm; omega, ?_⟩
        refine e_g2 hG [(328, [0, 1, 2, 3, 4, 6, 7, 8, 9])] 60 ?_
        simp only [e_wp_s, Option.getD_some, Option.isSome_some, Option.isSome_none, xis0, xis1, xis2, xis3, xis4, e_ks, lk_k, lk_c, List.lookup_nil, gt_c, vi_i, k1_n, k1_c, k2_n, k2_c, ar_n, ar_c, pk_n, pk_c, rm_0, rm_1, rm_2, rm_3, rm_4, rm_5, rc_9, rcs, fvs, rf_s, rf_n, isI_i, isL_l, isR_r, isR_n, isR_q, ct_i, ct_l, ct_r, ct_n, ct_q, tFs, tCs, tKs, tJs, tSs, e_nf, lgs, ↓reduceIte, true_and, and_true, false_and, and_false, or_true, true_or, false_or, or_false, Nat.reduceAdd, Nat.reduceEqDiff, Nat.reduceDiv, Nat.reduceLT, Nat.reduceLeDiff, Nat.zero_add, reduceCtorEq, Bool.false_eq_true, Option.toList_some, Option.toList_none, List.cons_append, List.nil_append, not_true_eq_false, not_false_eq_true, Nat.sub_zero, dsX7_write_0, dsX7_write_1, jsX7_write, xcX7_write]
        exact hp0
      · obtain ⟨z, t, hz, ht, hzt, z1, z2, z3, z4⟩ := LTT X cX
        have hfit := vfit_n (x := X) hac hz ht hzt
        -- from the number of zeros on
        have mid : G 225 [(0, .ref m), (1, .int (nI s)), (2, .int (nI b)), (3, .int (nI (320 * s + st))), (4, .long (q.1 - p.1).toInt64), (6, .int ld), (7, .int wd), (8, .int (nI k)), (9, .int (nI LL)), (12, .long X), (14, .int (nI z)), (15, .int (nI (63 - t)))] [] U1 0 0 := by
          by_cases cf : 0 < fc ∧ fa ≤ z ∧ 64 - t ≤ fa + fc
          · -- the frame fits
            have hfit' := hfit.mpr cf
            have hld : ld = nI fa := by
              rcases hLW.2 with ⟨w1, w2⟩ | ⟨w1, w2⟩
              · exact absurd w1 (nI_ne0 cf.1 (by omega))
              · exact w2
            have hwd : wd = nI fc := hLW.1
            have hvb : vbits (nI fa) (nI fc) X = [true] ++ ([false] ++ nb (ush X (nI (64 - fa - fc))) fc) := by
              unfold vbits
              rw [if_neg cX, if_pos hfit']
              unfold vcb
              rw [show (64 : Int32) = nI 64 from rfl, nI_sub (by omega), nI_sub (by omega)]
              have : cl (nI fc) = fc := nI_clamp (by omega)
              rw [this]; rfl
            have hp0 := put _ ld wd hvb.symm (by
              unfold vF vW; rw [if_neg cX, if_neg cX, if_pos hfit', if_pos hfit']; exact hLW)
            have hlv := hvl _ hvb.symm
            rw [List.length_append, List.length_append, nb_len] at hlv
            simp only [List.length_cons, List.length_nil] at hlv
            subst hld hwd
            have n1 : ¬ nI fa < 0 := nI_pos (by omega)
            have n2 : ¬ nI z < nI fa := nI_nlt cf.2.1 (by omega)
            have n3 : nI (63 - t) < nI (fa + fc) := nI_lt (by omega) (by omega)
            have n4 : (64 : Int32) - nI fa = nI (64 - fa) := nI_sub (a := 64) (by omega)
            have n5 : nI (64 - fa) - nI fc = nI (64 - fa - fc) := nI_sub (by omega)
            refine e_g2 hG [(259, [0, 1, 2, 3, 4, 6, 7, 8, 9, 12, 14, 15, 16])] 60 ?_
            simp only [e_wp_s, Option.getD_some, Option.isSome_some, Option.isSome_none, xis0, xis1, xis2, xis3, xis4, e_ks, lk_k, lk_c, List.lookup_nil, gt_c, vi_i, k1_n, k1_c, k2_n, k2_c, ar_n, ar_c, pk_n, pk_c, rm_0, rm_1, rm_2, rm_3, rm_4, rm_5, rc_9, rcs, fvs, rf_s, rf_n, isI_i, isL_l, isR_r, isR_n, isR_q, ct_i, ct_l, ct_r, ct_n, ct_q, tFs, tCs, tKs, tJs, tSs, e_nf, lgs, ↓reduceIte, true_and, and_true, false_and, and_false, or_true, true_or, false_or, or_false, Nat.reduceAdd, Nat.reduceEqDiff, Nat.reduceDiv, Nat.reduceLT, Nat.reduceLeDiff, Nat.zero_add, reduceCtorEq, Bool.false_eq_true, Option.toList_some, Option.toList_none, List.cons_append, List.nil_append, not_true_eq_false, not_false_eq_true, Nat.sub_zero, dsX7_write_0, dsX7_write_1, jsX7_write, xcX7_write, y0, n1, n2, n3, nI_add]
            refine ⟨A, _, true, hMU1, rfl, u1, by omega, ?_⟩
            obtain ⟨a1, a2, a3⟩ := wr7_e (A := A) (M := U1) (m := m) (p := LL + CC.length) (bs := [true])
            have hMa : MS A (wr7 A U1 m (LL + CC.length) [true]) m := by rw [a2]; exact hMU1
            have ga := hMa.1
            refine e_g2 hG [(273, [0, 1, 2, 3, 4, 6, 7, 8, 9, 12, 14, 15, 16])] 60 ?_
            simp only [e_wp_s, Option.getD_some, Option.isSome_some, Option.isSome_none, xis0, xis1, xis2, xis3, xis4, e_ks, lk_k, lk_c, List.lookup_nil, gt_c, vi_i, k1_n, k1_c, k2_n, k2_c, ar_n, ar_c, pk_n, pk_c, rm_0, rm_1, rm_2, rm_3, rm_4, rm_5, rc_9, rcs, fvs, rf_s, rf_n, isI_i, isL_l, isR_r, isR_n, isR_q, ct_i, ct_l, ct_r, ct_n, ct_q, tFs, tCs, tKs, tJs, tSs, e_nf, lgs, ↓reduceIte, true_and, and_true, false_and, and_false, or_true, true_or, false_or, or_false, Nat.reduceAdd, Nat.reduceEqDiff, Nat.reduceDiv, Nat.reduceLT, Nat.reduceLeDiff, Nat.zero_add, reduceCtorEq, Bool.false_eq_true, Option.toList_some, Option.toList_none, List.cons_append, List.nil_append, not_true_eq_false, not_false_eq_true, Nat.sub_zero, dsX7_write_0, dsX7_write_1, jsX7_write, xcX7_write, ga, i10]
            refine ⟨A, _, false, hMa, rfl, a1, by simp only [List.length_cons, List.length_nil]; omega, ?_⟩
            rw [wr7_app]
            obtain ⟨b1, b2, b3⟩ := wr7_e (A := A) (M := U1) (m := m) (p := LL + CC.length) (bs := [true] ++ [false])
            have hMb : MS A (wr7 A U1 m (LL + CC.length) ([true] ++ [false])) m := by rw [b2]; exact hMU1
            have gb := hMb.1
            generalize hYb : wr7 A U1 m (LL + CC.length) ([true] ++ [false]) = Yb at *
            refine e_g2 hG [(328, [0, 1, 2, 3, 4, 6, 7, 8, 9])] 60 ?_
            simp only [e_wp_s, Option.getD_some, Option.isSome_some, Option.isSome_none, xis0, xis1, xis2, xis3, xis4, e_ks, lk_k, lk_c, List.lookup_nil, gt_c, vi_i, k1_n, k1_c, k2_n, k2_c, ar_n, ar_c, pk_n, pk_c, rm_0, rm_1, rm_2, rm_3, rm_4, rm_5, rc_9, rcs, fvs, rf_s, rf_n, isI_i, isL_l, isR_r, isR_n, isR_q, ct_i, ct_l, ct_r, ct_n, ct_q, tFs, tCs, tKs, tJs, tSs, e_nf, lgs, ↓reduceIte, true_and, and_true, false_and, and_false, or_true, true_or, false_or, or_false, Nat.reduceAdd, Nat.reduceEqDiff, Nat.reduceDiv, Nat.reduceLT, Nat.reduceLeDiff, Nat.zero_add, reduceCtorEq, Bool.false_eq_true, Option.toList_some, Option.toList_none, List.cons_append, List.nil_append, not_true_eq_false, not_false_eq_true, Nat.sub_zero, dsX7_write_0, dsX7_write_1, jsX7_write, xcX7_write, gb, i10, n4, n5]
            refine ⟨A, _, fc, hMb, rfl, by omega, b1, by simp only [List.length_append, List.length_cons, List.length_nil]; omega, ?_⟩
            rw [← hYb, wr7_app, nb_sar X (by omega) (by omega), List.append_assoc]
            exact hp0
          · have hnf : ¬ (0 < nI fc ∧ ¬ nlzL X < nI fa ∧ ¬ nI fa + nI fc < 64 - ntzL X) := fun q => cf (hfit.mp q)
            have w64 : (64 : Int32) - ntzL X - nlzL X = nI (64 - t - z) := by rw [hz, ht, show (64 : Int32) = nI 64 from rfl, nI_sub (by omega), nI_sub (by omega)]
            have hvb : vbits (nI fa) (nI fc) X = [true] ++ ([true] ++ (nb (nI z).toInt64 6 ++ (nb (nI (64 - t - z - 1)).toInt64 6 ++ nb (ush X (nI t)) (64 - t - z)))) := by
              unfold vbits
              rw [if_neg cX, if_neg hnf]
              unfold vcn
              rw [w64, hz, ht, show (1 : Int32) = nI 1 from rfl, nI_sub (by omega)]
              have : cl (nI (64 - t - z)) = 64 - t - z := nI_clamp (by omega)
              rw [this]; rfl
            have hp0 := put _ (nI z) (nI (64 - t - z)) hvb.symm (by
              unfold vF vW
              rw [if_neg cX, if_neg cX, if_neg hnf, if_neg hnf, w64, hz]
              exact ⟨rfl, Or.inr ⟨nI_lt (a := 0) (by omega) (by omega), rfl⟩⟩)
            have hlv := hvl _ hvb.symm
            simp only [List.length_append, nb_len, List.length_cons, List.length_nil] at hlv
            have hmid : G 252 [(0, .ref m), (1, .int (nI s)), (2, .int (nI b)), (3, .int (nI (320 * s + st))), (4, .long (q.1 - p.1).toInt64), (6, .int ld), (7, .int wd), (8, .int (nI k)), (9, .int (nI LL)), (12, .long X), (14, .int (nI z)), (15, .int (nI (63 - t)))] [.int 0] U1 0 0 := by
              have n1 : nI (63 - t) - nI z = nI (63 - t - z) := nI_sub (by omega)
              have n2 : nI (63 - t - z) + 1 = nI (64 - t - z) := by rw [nI_1]; congr 1; omega
              have n3 : nI (64 - t - z) - 1 = nI (64 - t - z - 1) := nI_sub (b := 1) (by omega)
              have n4 : (64 : Int32) - nI z = nI (64 - z) := nI_sub (a := 64) (by omega)
              have n5 : nI (64 - z) - nI (64 - t - z) = nI t := by rw [nI_sub (by omega)]; congr 1; omega
              refine e_g2 hG [(259, [0, 1, 2, 3, 4, 6, 7, 8, 9, 12, 14, 15, 16])] 60 ?_
              simp only [e_wp_s, Option.getD_some, Option.isSome_some, Option.isSome_none, xis0, xis1, xis2, xis3, xis4, e_ks, lk_k, lk_c, List.lookup_nil, gt_c, vi_i, k1_n, k1_c, k2_n, k2_c, ar_n, ar_c, pk_n, pk_c, rm_0, rm_1, rm_2, rm_3, rm_4, rm_5, rc_9, rcs, fvs, rf_s, rf_n, isI_i, isL_l, isR_r, isR_n, isR_q, ct_i, ct_l, ct_r, ct_n, ct_q, tFs, tCs, tKs, tJs, tSs, e_nf, lgs, ↓reduceIte, true_and, and_true, false_and, and_false, or_true, true_or, false_or, or_false, Nat.reduceAdd, Nat.reduceEqDiff, Nat.reduceDiv, Nat.reduceLT, Nat.reduceLeDiff, Nat.zero_add, reduceCtorEq, Bool.false_eq_true, Option.toList_some, Option.toList_none, List.cons_append, List.nil_append, not_true_eq_false, not_false_eq_true, Nat.sub_zero, dsX7_write_0, dsX7_write_1, jsX7_write, xcX7_write, y0]
              refine ⟨A, _, true, hMU1, rfl, u1, by omega, ?_⟩
              obtain ⟨a1, a2, a3⟩ := wr7_e (A := A) (M := U1) (m := m) (p := LL + CC.length) (bs := [true])
              have hMa : MS A (wr7 A U1 m (LL + CC.length) [true]) m := by rw [a2]; exact hMU1
              have ga := hMa.1
              refine e_g2 hG [(273, [0, 1, 2, 3, 4, 6, 7, 8, 9, 12, 14, 15, 16])] 60 ?_
              simp only [e_wp_s, Option.getD_some, Option.isSome_some, Option.isSome_none, xis0, xis1, xis2, xis3, xis4, e_ks, lk_k, lk_c, List.lookup_nil, gt_c, vi_i, k1_n, k1_c, k2_n, k2_c, ar_n, ar_c, pk_n, pk_c, rm_0, rm_1, rm_2, rm_3, rm_4, rm_5, rc_9, rcs, fvs, rf_s, rf_n, isI_i, isL_l, isR_r, isR_n, isR_q, ct_i, ct_l, ct_r, ct_n, ct_q, tFs, tCs, tKs, tJs, tSs, e_nf, lgs, ↓reduceIte, true_and, and_true, false_and, and_false, or_true, true_or, false_or, or_false, Nat.reduceAdd, Nat.reduceEqDiff, Nat.reduceDiv, Nat.reduceLT, Nat.reduceLeDiff, Nat.zero_add, reduceCtorEq, Bool.false_eq_true, Option.toList_some, Option.toList_none, List.cons_append, List.nil_append, not_true_eq_false, not_false_eq_true, Nat.sub_zero, dsX7_write_0, dsX7_write_1, jsX7_write, xcX7_write, ga, i10]
              refine ⟨A, _, true, hMa, rfl, a1, by simp only [List.length_cons, List.length_nil]; omega, ?_⟩
              rw [wr7_app]
              obtain ⟨b1, b2, b3⟩ := wr7_e (A := A) (M := U1) (m := m) (p := LL + CC.length) (bs := [true] ++ [true])
              have hMb : MS A (wr7 A U1 m (LL + CC.length) ([true] ++ [true])) m := by rw [b2]; exact hMU1
              have gb := hMb.1
              generalize hYb : wr7 A U1 m (LL + CC.length) ([true] ++ [true]) = Yb at *
              refine e_g2 hG [(300, [0, 1, 2, 3, 4, 6, 7, 8, 9, 12])] 60 ?_
              simp only [e_wp_s, Option.getD_some, Option.isSome_some, Option.isSome_none, xis0, xis1, xis2, xis3, xis4, e_ks, lk_k, lk_c, List.lookup_nil, gt_c, vi_i, k1_n, k1_c, k2_n, k2_c, ar_n, ar_c, pk_n, pk_c, rm_0, rm_1, rm_2, rm_3, rm_4, rm_5, rc_9, rcs, fvs, rf_s, rf_n, isI_i, isL_l, isR_r, isR_n, isR_q, ct_i, ct_l, ct_r, ct_n, ct_q, tFs, tCs, tKs, tJs, tSs, e_nf, lgs, ↓reduceIte, true_and, and_true, false_and, and_false, or_true, true_or, false_or, or_false, Nat.reduceAdd, Nat.reduceEqDiff, Nat.reduceDiv, Nat.reduceLT, Nat.reduceLeDiff, Nat.zero_add, reduceCtorEq, Bool.false_eq_true, Option.toList_some, Option.toList_none, List.cons_append, List.nil_append, not_true_eq_false, not_false_eq_true, Nat.sub_zero, dsX7_write_0, dsX7_write_1, jsX7_write, xcX7_write, gb, i10, n1, n2]
              refine ⟨A, _, 6, hMb, rfl, by decide, b1, by simp only [List.length_append, List.length_cons, List.length_nil]; omega, ?_⟩
              rw [← hYb, wr7_app]
              obtain ⟨c1, c2, c3⟩ := wr7_e (A := A) (M := U1) (m := m) (p := LL + CC.length) (bs := [true] ++ [true] ++ nb (nI z).toInt64 6)
              have hMc : MS A (wr7 A U1 m (LL + CC.length) ([true] ++ [true] ++ nb (nI z).toInt64 6)) m := by rw [c2]; exact hMU1
              have gc := hMc.1
              generalize hYc : wr7 A U1 m (LL + CC.length) ([true] ++ [true] ++ nb (nI z).toInt64 6) = Yc at *
              refine e_g2 hG [(311, [0, 1, 2, 3, 4, 6, 7, 8, 9, 12])] 60 ?_
              simp only [e_wp_s, Option.getD_some, Option.isSome_some, Option.isSome_none, xis0, xis1, xis2, xis3, xis4, e_ks, lk_k, lk_c, List.lookup_nil, gt_c, vi_i, k1_n, k1_c, k2_n, k2_c, ar_n, ar_c, pk_n, pk_c, rm_0, rm_1, rm_2, rm_3, rm_4, rm_5, rc_9, rcs, fvs, rf_s, rf_n, isI_i, isL_l, isR_r, isR_n, isR_q, ct_i, ct_l, ct_r, ct_n, ct_q, tFs, tCs, tKs, tJs, tSs, e_nf, lgs, ↓reduceIte, true_and, and_true, false_and, and_false, or_true, true_or, false_or, or_false, Nat.reduceAdd, Nat.reduceEqDiff, Nat.reduceDiv, Nat.reduceLT, Nat.reduceLeDiff, Nat.zero_add, reduceCtorEq, Bool.false_eq_true, Option.toList_some, Option.toList_none, List.cons_append, List.nil_append, not_true_eq_false, not_false_eq_true, Nat.sub_zero, dsX7_write_0, dsX7_write_1, jsX7_write, xcX7_write, gc, n3]
              refine ⟨A, _, 6, hMc, rfl, by decide, c1, by simp only [List.length_append, nb_len, List.length_cons, List.length_nil]; omega, ?_⟩
              rw [← hYc, wr7_app]
              obtain ⟨d1, d2, d3⟩ := wr7_e (A := A) (M := U1) (m := m) (p := LL + CC.length) (bs := [true] ++ [true] ++ nb (nI z).toInt64 6 ++ nb (nI (64 - t - z - 1)).toInt64 6)
              have hMd : MS A (wr7 A U1 m (LL + CC.length) ([true] ++ [true] ++ nb (nI z).toInt64 6 ++ nb (nI (64 - t - z - 1)).toInt64 6)) m := by rw [d2]; exact hMU1
              have gd := hMd.1
              generalize hYd : wr7 A U1 m (LL + CC.length) ([true] ++ [true] ++ nb (nI z).toInt64 6 ++ nb (nI (64 - t - z - 1)).toInt64 6) = Yd at *
              refine e_g2 hG [(328, [0, 1, 2, 3, 4, 6, 7, 8, 9])] 60 ?_
              simp only [e_wp_s, Option.getD_some, Option.isSome_some, Option.isSome_none, xis0, xis1, xis2, xis3, xis4, e_ks, lk_k, lk_c, List.lookup_nil, gt_c, vi_i, k1_n, k1_c, k2_n, k2_c, ar_n, ar_c, pk_n, pk_c, rm_0, rm_1, rm_2, rm_3, rm_4, rm_5, rc_9, rcs, fvs, rf_s, rf_n, isI_i, isL_l, isR_r, isR_n, isR_q, ct_i, ct_l, ct_r, ct_n, ct_q, tFs, tCs, tKs, tJs, tSs, e_nf, lgs, ↓reduceIte, true_and, and_true, false_and, and_false, or_true, true_or, false_or, or_false, Nat.reduceAdd, Nat.reduceEqDiff, Nat.reduceDiv, Nat.reduceLT, Nat.reduceLeDiff, Nat.zero_add, reduceCtorEq, Bool.false_eq_true, Option.toList_some, Option.toList_none, List.cons_append, List.nil_append, not_true_eq_false, not_false_eq_true, Nat.sub_zero, dsX7_write_0, dsX7_write_1, jsX7_write, xcX7_write, gd, n4, n5]
              refine ⟨A, _, 64 - t - z, hMd, rfl, by omega, d1, by simp only [List.length_append, nb_len, List.length_cons, List.length_nil]; omega, ?_⟩
              rw [← hYd, wr7_app, nb_sar X (by omega) (by omega), List.append_assoc, List.append_assoc, List.append_assoc]
              exact hp0
            by_cases c0 : 0 < fc
            · have hld : ld = nI fa := by
                rcases hLW.2 with ⟨w1, w2⟩ | ⟨w1, w2⟩
                · exact absurd w1 (nI_ne0 c0 (by omega))
                · exact w2
              have hwd : wd = nI fc := hLW.1
              subst hld hwd
              have n1 : ¬ nI fa < 0 := nI_pos (by omega)
              by_cases c1 : fa ≤ z
              · have n2 : ¬ nI z < nI fa := nI_nlt c1 (by omega)
                have n3 : ¬ nI (63 - t) < nI (fa + fc) := nI_nlt (by omega) (by omega)
                refine e_g2 hG [(252, [0, 1, 2, 3, 4, 6, 7, 8, 9, 12, 14, 15])] 60 ?_
                simp only [e_wp_s, Option.getD_some, Option.isSome_some, Option.isSome_none, xis0, xis1, xis2, xis3, xis4, e_ks, lk_k, lk_c, List.lookup_nil, gt_c, vi_i, k1_n, k1_c, k2_n, k2_c, ar_n, ar_c, pk_n, pk_c, rm_0, rm_1, rm_2, rm_3, rm_4, rm_5, rc_9, rcs, fvs, rf_s, rf_n, isI_i, isL_l, isR_r, isR_n, isR_q, ct_i, ct_l, ct_r, ct_n, ct_q, tFs, tCs, tKs, tJs, tSs, e_nf, lgs, ↓reduceIte, true_and, and_true, false_and, and_false, or_true, true_or, false_or, or_false, Nat.reduceAdd, Nat.reduceEqDiff, Nat.reduceDiv, Nat.reduceLT, Nat.reduceLeDiff, Nat.zero_add, reduceCtorEq, Bool.false_eq_true, Option.toList_some, Option.toList_none, List.cons_append, List.nil_append, not_true_eq_false, not_false_eq_true, Nat.sub_zero, dsX7_write_0, dsX7_write_1, jsX7_write, xcX7_write, n1, n2, n3, nI_add]
                exact hmid
              · have n2 : nI z < nI fa := nI_lt (by omega) (by omega)
                refine e_g2 hG [(252, [0, 1, 2, 3, 4, 6, 7, 8, 9, 12, 14, 15])] 60 ?_
                simp only [e_wp_s, Option.getD_some, Option.isSome_some, Option.isSome_none, xis0, xis1, xis2, xis3, xis4, e_ks, lk_k, lk_c, List.lookup_nil, gt_c, vi_i, k1_n, k1_c, k2_n, k2_c, ar_n, ar_c, pk_n, pk_c, rm_0, rm_1, rm_2, rm_3, rm_4, rm_5, rc_9, rcs, fvs, rf_s, rf_n, isI_i, isL_l, isR_r, isR_n, isR_q, ct_i, ct_l, ct_r, ct_n, ct_q, tFs, tCs, tKs, tJs, tSs, e_nf, lgs, ↓reduceIte, true_and, and_true, false_and, and_false, or_true, true_or, false_or, or_false, Nat.reduceAdd, Nat.reduceEqDiff, Nat.reduceDiv, Nat.reduceLT, Nat.reduceLeDiff, Nat.zero_add, reduceCtorEq, Bool.false_eq_true, Option.toList_some, Option.toList_none, List.cons_append, List.nil_append, not_true_eq_false, not_false_eq_true, Nat.sub_zero, dsX7_write_0, dsX7_write_1, jsX7_write, xcX7_write, n1, n2, nI_add]
                exact hmid
            · have hld : ld = -1 := by
                rcases hLW.2 with ⟨w1, w2⟩ | ⟨w1, w2⟩
                · exact w2
                · exact absurd ((nI_ltI (a := 0) (by decide) (by omega)).mp w1) c0
              subst hld
              have n1 : (-1 : Int32) < 0 := by decide
              refine e_g2 hG [(252, [0, 1, 2, 3, 4, 6, 7, 8, 9, 12, 14, 15])] 60 ?_
              simp only [e_wp_s, Option.getD_some, Option.isSome_some, Option.isSome_none, xis0, xis1, xis2, xis3, xis4, e_ks, lk_k, lk_c, List.lookup_nil, gt_c, vi_i, k1_n, k1_c, k2_n, k2_c, ar_n, ar_c, pk_n, pk_c, rm_0, rm_1, rm_2, rm_3, rm_4, rm_5, rc_9, rcs, fvs, rf_s, rf_n, isI_i, isL_l, isR_r, isR_n, isR_q, ct_i, ct_l, ct_r, ct_n, ct_q, tFs, tCs, tKs, tJs, tSs, e_nf, lgs, ↓reduceIte, true_and, and_true, false_and, and_false, or_true, true_or, false_or, or_false, Nat.reduceAdd, Nat.reduceEqDiff, Nat.reduceDiv, Nat.reduceLT, Nat.reduceLeDiff, Nat.zero_add, reduceCtorEq, Bool.false_eq_true, Option.toList_some, Option.toList_none, List.cons_append, List.nil_append, not_true_eq_false, not_false_eq_true, Nat.sub_zero, dsX7_write_0, dsX7_write_1, jsX7_write, xcX7_write, n1]
              exact hmid
        have lpt : ∀ e y, y + e = 63 - (63 - t) → G 204 [(0, .ref m), (1, .int (nI s)), (2, .int (nI b)), (3, .int (nI (320 * s + st))), (4, .long (q.1 - p.1).toInt64), (6, .int ld), (7, .int wd), (8, .int (nI k)), (9, .int (nI LL)), (12, .long X), (14, .int (nI z)), (15, .int (nI (63 - y)))] [] U1 0 0 := by
          intro e
          induction e with
          | zero =>
            intro y hy
            have e5 : (63 : Int32) - nI (63 - y) = nI y := by rw [show (63 : Int32) = nI 63 from rfl, nI_sub (by omega)]; congr 1; omega
            have e6 : ¬ tb X y = false := by rw [show y = t by omega, z4]; decide
            refine e_g2 hG [(225, [0, 1, 2, 3, 4, 6, 7, 8, 9, 12, 14, 15])] 60 ?_
            simp only [e_wp_s, Option.getD_some, Option.isSome_some, Option.isSome_none, xis0, xis1, xis2, xis3, xis4, e_ks, lk_k, lk_c, List.lookup_nil, gt_c, vi_i, k1_n, k1_c, k2_n, k2_c, ar_n, ar_c, pk_n, pk_c, rm_0, rm_1, rm_2, rm_3, rm_4, rm_5, rc_9, rcs, fvs, rf_s, rf_n, isI_i, isL_l, isR_r, isR_n, isR_q, ct_i, ct_l, ct_r, ct_n, ct_q, tFs, tCs, tKs, tJs, tSs, e_nf, lgs, ↓reduceIte, true_and, and_true, false_and, and_false, or_true, true_or, false_or, or_false, Nat.reduceAdd, Nat.reduceEqDiff, Nat.reduceDiv, Nat.reduceLT, Nat.reduceLeDiff, Nat.zero_add, reduceCtorEq, Bool.false_eq_true, Option.toList_some, Option.toList_none, List.cons_append, List.nil_append, not_true_eq_false, not_false_eq_true, Nat.sub_zero, dsX7_write_0, dsX7_write_1, jsX7_write, xcX7_write, e5, b10 X (show y < 64 by omega), e6]
            rw [show y = t by omega]
            exact mid
          | succ e ih =>
            intro y hy
            have e5 : (63 : Int32) - nI (63 - y) = nI y := by rw [show (63 : Int32) = nI 63 from rfl, nI_sub (by omega)]; congr 1; omega
            have e6 : tb X y = false := z3 y (by omega)
            have e7 : nI (63 - y) + -1 = nI (63 - (y + 1)) := by
              have := pk_m1 (63 - (y + 1))
              rw [show 63 - (y + 1) + 1 = 63 - y by omega] at this
              exact this
            refine e_g2 hG [(204, [0, 1, 2, 3, 4, 6, 7, 8, 9, 12, 14, 15])] 60 ?_
            simp only [e_wp_s, Option.getD_some, Option.isSome_some, Option.isSome_none, xis0, xis1, xis2, xis3, xis4, e_ks, lk_k, lk_c, List.lookup_nil, gt_c, vi_i, k1_n, k1_c, k2_n, k2_c, ar_n, ar_c, pk_n, pk_c, rm_0, rm_1, rm_2, rm_3, rm_4, rm_5, rc_9, rcs, fvs, rf_s, rf_n, isI_i, isL_l, isR_r, isR_n, isR_q, ct_i, ct_l, ct_r, ct_n, ct_q, tFs, tCs, tKs, tJs, tSs, e_nf, lgs, ↓reduceIte, true_and, and_true, false_and, and_false, or_true, true_or, false_or, or_false, Nat.reduceAdd, Nat.reduceEqDiff, Nat.reduceDiv, Nat.reduceLT, Nat.reduceLeDiff, Nat.zero_add, reduceCtorEq, Bool.false_eq_true, Option.toList_some, Option.toList_none, List.cons_append, List.nil_append, not_true_eq_false, not_false_eq_true, Nat.sub_zero, dsX7_write_0, dsX7_write_1, jsX7_write, xcX7_write, e5, b10 X (show y < 64 by omega), e6, e7]
            exact ih (y + 1) (by omega)
        have lpz : ∀ e y, y + e = z → G 179 [(0, .ref m), (1, .int (nI s)), (2, .int (nI b)), (3, .int (nI (320 * s + st))), (4, .long (q.1 - p.1).toInt64), (6, .int ld), (7, .int wd), (8, .int (nI k)), (9, .int (nI LL)), (12, .long X), (14, .int (nI y))] [] U1 0 0 := by
          intro e
          induction e with
          | zero =>
            intro y hy
            have e5 : (63 : Int32) - nI y = nI (63 - y) := nI_sub (a := 63) (by omega)
            have e6 : ¬ tb X (63 - y) = false := by rw [show y = z by omega, z2]; decide
            refine e_g2 hG [(204, [0, 1, 2, 3, 4, 6, 7, 8, 9, 12, 14, 15])] 60 ?_
            simp only [e_wp_s, Option.getD_some, Option.isSome_some, Option.isSome_none, xis0, xis1, xis2, xis3, xis4, e_ks, lk_k, lk_c, List.lookup_nil, gt_c, vi_i, k1_n, k1_c, k2_n, k2_c, ar_n, ar_c, pk_n, pk_c, rm_0, rm_1, rm_2, rm_3, rm_4, rm_5, rc_9, rcs, fvs, rf_s, rf_n, isI_i, isL_l, isR_r, isR_n, isR_q, ct_i, ct_l, ct_r, ct_n, ct_q, tFs, tCs, tKs, tJs, tSs, e_nf, lgs, ↓reduceIte, true_and, and_true, false_and, and_false, or_true, true_or, false_or, or_false, Nat.reduceAdd, Nat.reduceEqDiff, Nat.reduceDiv, Nat.reduceLT, Nat.reduceLeDiff, Nat.zero_add, reduceCtorEq, Bool.false_eq_true, Option.toList_some, Option.toList_none, List.cons_append, List.nil_append, not_true_eq_false, not_false_eq_true, Nat.sub_zero, dsX7_write_0, dsX7_write_1, jsX7_write, xcX7_write, e5, b10 X (show 63 - y < 64 by omega), e6]
            rw [show y = z by omega]
            exact lpt (63 - (63 - t)) 0 (by omega)
          | succ e ih =>
            intro y hy
            have e5 : (63 : Int32) - nI y = nI (63 - y) := nI_sub (a := 63) (by omega)
            have e6 : tb X (63 - y) = false := z1 _ (by omega)
            refine e_g2 hG [(179, [0, 1, 2, 3, 4, 6, 7, 8, 9, 12, 14])] 60 ?_
            simp only [e_wp_s, Option.getD_some, Option.isSome_some, Option.isSome_none, xis0, xis1, xis2, xis3, xis4, e_ks, lk_k, lk_c, List.lookup_nil, gt_c, vi_i, k1_n, k1_c, k2_n, k2_c, ar_n, ar_c, pk_n, pk_c, rm_0, rm_1, rm_2, rm_3, rm_4, rm_5, rc_9, rcs, fvs, rf_s, rf_n, isI_i, isL_l, isR_r, isR_n, isR_q, ct_i, ct_l, ct_r, ct_n, ct_q, tFs, tCs, tKs, tJs, tSs, e_nf, lgs, ↓reduceIte, true_and, and_true, false_and, and_false, or_true, true_or, false_or, or_false, Nat.reduceAdd, Nat.reduceEqDiff, Nat.reduceDiv, Nat.reduceLT, Nat.reduceLeDiff, Nat.zero_add, reduceCtorEq, Bool.false_eq_true, Option.toList_some, Option.toList_none, List.cons_append, List.nil_append, not_true_eq_false, not_false_eq_true, Nat.sub_zero, dsX7_write_0, dsX7_write_1, jsX7_write, xcX7_write, e5, b10 X (show 63 - y < 64 by omega), e6, nI_1]
            exact ih (y + 1) (by omega)
        refine e_g2 hG [(179, [0, 1, 2, 3, 4, 6, 7, 8, 9, 12, 14])] 60 ?_
        simp only [e_wp_s, Option.getD_some, Option.isSome_some, Option.isSome_none, xis0, xis1, xis2, xis3, xis4, e_ks, lk_k, lk_c, List.lookup_nil, gt_c, vi_i, k1_n, k1_c, k2_n, k2_c, ar_n, ar_c, pk_n, pk_c, rm_0, rm_1, rm_2, rm_3, rm_4, rm_5, rc_9, rcs, fvs, rf_s, rf_n, isI_i, isL_l, isR_r, isR_n, isR_q, ct_i, ct_l, ct_r, ct_n, ct_q, tFs, tCs, tKs, tJs, tSs, e_nf, lgs, ↓reduceIte, true_and, and_true, false_and, and_false, or_true, true_or, false_or, or_false, Nat.reduceAdd, Nat.reduceEqDiff, Nat.reduceDiv, Nat.reduceLT, Nat.reduceLeDiff, Nat.zero_add, reduceCtorEq, Bool.false_eq_true, Option.toList_some, Option.toList_none, List.cons_append, List.nil_append, not_true_eq_false, not_false_eq_true, Nat.sub_zero, dsX7_write_0, dsX7_write_1, jsX7_write, xcX7_write, y0, rv234, kv234, lv234, q3', p3', i1, i2, i3, i4, i5, nI_add, hX, cX]
        exact lpz z 0 (by omega)
  -- the first point
  obtain ⟨p, hp1, -⟩ := first_T hxn
  obtain ⟨p2, p3, p4, p5⟩ := hat 0 p hp1
  rw [Nat.add_zero] at p2 p3
  have htk1 : x.1.take 1 = [p] := by
    have := take_1 hp1
    rw [List.take_zero] at this
    exact this
  have first : ∀ U, MC O A m [245, 246, 247] M U → (∀ j, j < 256 → aI U (A 245) j = 0) → G 22 [(0, .ref m), (1, .int (nI s)), (2, .int (nI b))] [] U 0 0 := by
    intro U hC hby
    have hMU := hC.ms hM
    have g0 := hMU.1
    have hC1 : MC O A m [245, 246, 247] M (sI U 247 m 0) := hC.sI hO (by decide)
    have hMV := hC1.ms hM
    have hB1 : mB A (sI U 247 m 0) s bk := by
      unfold mB
      rw [(hC1.2.2.2.2.1 228 rfl (by decide)).1, (hC1.2.2.2.2.1 232 rfl (by decide)).1, (hC1.2.2.2.2.1 236 rfl (by decide)).1]
      exact hB
    have v247 : mI (sI U 247 m 0) 247 m = nI 0 := by simp only [hmI, and_self, if_true]; rfl
    have vby : ∀ j, j < 256 → aI (sI U 247 m 0) (A 245) j = 0 := fun j hj => by simp only [haI]; exact hby j hj
    generalize hVV : sI U 247 m 0 = V at *
    have hV2 := hVV
    refine e_g2 hG [(27, [0, 1, 2])] 60 ?_
    simp only [e_wp_s, Option.getD_some, Option.isSome_some, Option.isSome_none, xis0, xis1, xis2, xis3, xis4, e_ks, lk_k, lk_c, List.lookup_nil, gt_c, vi_i, k1_n, k1_c, k2_n, k2_c, ar_n, ar_c, pk_n, pk_c, rm_0, rm_1, rm_2, rm_3, rm_4, rm_5, rc_9, rcs, fvs, rf_s, rf_n, isI_i, isL_l, isR_r, isR_n, isR_q, ct_i, ct_l, ct_r, ct_n, ct_q, tFs, tCs, tKs, tJs, tSs, e_nf, lgs, ↓reduceIte, true_and, and_true, false_and, and_false, or_true, true_or, false_or, or_false, Nat.reduceAdd, Nat.reduceEqDiff, Nat.reduceDiv, Nat.reduceLT, Nat.reduceLeDiff, Nat.zero_add, reduceCtorEq, Bool.false_eq_true, Option.toList_some, Option.toList_none, List.cons_append, List.nil_append, not_true_eq_false, not_false_eq_true, Nat.sub_zero, dsX7_write_0, dsX7_write_1, jsX7_write, xcX7_write, g0, hV2]
    have gv := hMV.1
    obtain ⟨r231, k231, l231⟩ : mR V 231 m = some (A 231) ∧ mK V (A 231) = 9 ∧ mN V (A 231) = 2560 := hMV.2 231 rfl
    obtain ⟨r234, k234, l234⟩ : mR V 234 m = some (A 234) ∧ mK V (A 234) = 10 ∧ mN V (A 234) = 2560 := hMV.2 234 rfl
    have q2 : aI V (A 231) (320 * s + st) = p.1 := by rw [(hC1.2.2.2.2.1 231 rfl (by decide)).1]; exact p2
    have i1 : (nI (320 * s + st)).toNatClampNeg = 320 * s + st := nI_clamp (by omega)
    have i2 : vp_in (nI (320 * s + st)) 2560 := vp_in_nI (by omega) (by decide)
    refine e_g2 hG [(33, [0, 1, 2])] 60 ?_
    simp only [e_wp_s, Option.getD_some, Option.isSome_some, Option.isSome_none, xis0, xis1, xis2, xis3, xis4, e_ks, lk_k, lk_c, List.lookup_nil, gt_c, vi_i, k1_n, k1_c, k2_n, k2_c, ar_n, ar_c, pk_n, pk_c, rm_0, rm_1, rm_2, rm_3, rm_4, rm_5, rc_9, rcs, fvs, rf_s, rf_n, isI_i, isL_l, isR_r, isR_n, isR_q, ct_i, ct_l, ct_r, ct_n, ct_q, tFs, tCs, tKs, tJs, tSs, e_nf, lgs, ↓reduceIte, true_and, and_true, false_and, and_false, or_true, true_or, false_or, or_false, Nat.reduceAdd, Nat.reduceEqDiff, Nat.reduceDiv, Nat.reduceLT, Nat.reduceLeDiff, Nat.zero_add, reduceCtorEq, Bool.false_eq_true, Option.toList_some, Option.toList_none, List.cons_append, List.nil_append, not_true_eq_false, not_false_eq_true, Nat.sub_zero, dsX7_write_0, dsX7_write_1, jsX7_write, xcX7_write, gv]
    refine ⟨A, s, b, bk, hMV, hs, hB1, rfl, rfl, by omega, ?_⟩
    rw [hst]
    refine e_g2 hG [(47, [0, 1, 2, 3])] 60 ?_
    simp only [e_wp_s, Option.getD_some, Option.isSome_some, Option.isSome_none, xis0, xis1, xis2, xis3, xis4, e_ks, lk_k, lk_c, List.lookup_nil, gt_c, vi_i, k1_n, k1_c, k2_n, k2_c, ar_n, ar_c, pk_n, pk_c, rm_0, rm_1, rm_2, rm_3, rm_4, rm_5, rc_9, rcs, fvs, rf_s, rf_n, isI_i, isL_l, isR_r, isR_n, isR_q, ct_i, ct_l, ct_r, ct_n, ct_q, tFs, tCs, tKs, tJs, tSs, e_nf, lgs, ↓reduceIte, true_and, and_true, false_and, and_false, or_true, true_or, false_or, or_false, Nat.reduceAdd, Nat.reduceEqDiff, Nat.reduceDiv, Nat.reduceLT, Nat.reduceLeDiff, Nat.zero_add, reduceCtorEq, Bool.false_eq_true, Option.toList_some, Option.toList_none, List.cons_append, List.nil_append, not_true_eq_false, not_false_eq_true, Nat.sub_zero, dsX7_write_0, dsX7_write_1, jsX7_write, xcX7_write, gv, r231, k231, l231, q2, i1, i2]
    refine ⟨A, 0, 32, hMV, rfl, by decide, v247, by decide, ?_⟩
    have hC2 : MC O A m [245, 246, 247] M (wr7 A V m 0 (nb p.1.toInt64 32)) := hC1.wr hO (by decide) (by decide)
    obtain ⟨a1, a2, a3⟩ := wr7_e (A := A) (M := V) (m := m) (p := 0) (bs := nb p.1.toInt64 32)
    have hMa := hC2.ms hM
    have ga := hMa.1
    have hwa := wr7_app (A := A) (M := V) (m := m) (p := 0) (bs := nb p.1.toInt64 32) (cs := nb p.2 64)
    generalize hW : wr7 A V m 0 (nb p.1.toInt64 32) = W at *
    obtain ⟨rw234, kw234, lw234⟩ : mR W 234 m = some (A 234) ∧ mK W (A 234) = 10 ∧ mN W (A 234) = 2560 := hMa.2 234 rfl
    have q3 : aL W (A 234) (320 * s + st) = p.2 := by rw [(hC2.2.2.2.2.1 234 rfl (by decide)).2]; exact p3
    refine e_g2 hG [(59, [0, 1, 2, 3])] 60 ?_
    simp only [e_wp_s, Option.getD_some, Option.isSome_some, Option.isSome_none, xis0, xis1, xis2, xis3, xis4, e_ks, lk_k, lk_c, List.lookup_nil, gt_c, vi_i, k1_n, k1_c, k2_n, k2_c, ar_n, ar_c, pk_n, pk_c, rm_0, rm_1, rm_2, rm_3, rm_4, rm_5, rc_9, rcs, fvs, rf_s, rf_n, isI_i, isL_l, isR_r, isR_n, isR_q, ct_i, ct_l, ct_r, ct_n, ct_q, tFs, tCs, tKs, tJs, tSs, e_nf, lgs, ↓reduceIte, true_and, and_true, false_and, and_false, or_true, true_or, false_or, or_false, Nat.reduceAdd, Nat.reduceEqDiff, Nat.reduceDiv, Nat.reduceLT, Nat.reduceLeDiff, Nat.zero_add, reduceCtorEq, Bool.false_eq_true, Option.toList_some, Option.toList_none, List.cons_append, List.nil_append, not_true_eq_false, not_false_eq_true, Nat.sub_zero, dsX7_write_0, dsX7_write_1, jsX7_write, xcX7_write, ga, rw234, kw234, lw234, q3, i1, i2]
    refine ⟨A, _, 64, hMa, rfl, by decide, a1, by rw [nb_len]; decide, ?_⟩
    rw [hwa]
    have hC3 : MC O A m [245, 246, 247] M (wr7 A V m 0 (nb p.1.toInt64 32 ++ nb p.2 64)) := hC1.wr hO (by decide) (by decide)
    obtain ⟨b1, b2, b3⟩ := wr7_e (A := A) (M := V) (m := m) (p := 0) (bs := nb p.1.toInt64 32 ++ nb p.2 64)
    have hMb := hC3.ms hM
    have gb := hMb.1
    generalize wr7 A V m 0 (nb p.1.toInt64 32 ++ nb p.2 64) = Y at *
    obtain ⟨ry246, ky246, ly246⟩ : mR Y 246 m = some (A 246) ∧ mK Y (A 246) = 9 ∧ mN Y (A 246) = 16 := hMb.2 246 rfl
    have z0 : (0 : Int32).toNatClampNeg = 0 := rfl
    have z1 : vp_in (0 : Int32) 16 := vp_in_nI (n := 0) (by decide) (by decide)
    have hE : enc (x.1.take 1) = en1 p := by rw [htk1]; rfl
    have hl1 : (eB (enc (x.1.take 1))).length = 96 := by
      rw [hE]
      show (nb p.1.toInt64 32 ++ nb p.2 64).length = 96
      rw [List.length_append, nb_len, nb_len]
    refine e_g2 hG [(79, [0, 1, 2, 3, 4, 6, 7, 8])] 60 ?_
    simp only [e_wp_s, Option.getD_some, Option.isSome_some, Option.isSome_none, xis0, xis1, xis2, xis3, xis4, e_ks, lk_k, lk_c, List.lookup_nil, gt_c, vi_i, k1_n, k1_c, k2_n, k2_c, ar_n, ar_c, pk_n, pk_c, rm_0, rm_1, rm_2, rm_3, rm_4, rm_5, rc_9, rcs, fvs, rf_s, rf_n, isI_i, isL_l, isR_r, isR_n, isR_q, ct_i, ct_l, ct_r, ct_n, ct_q, tFs, tCs, tKs, tJs, tSs, e_nf, lgs, ↓reduceIte, true_and, and_true, false_and, and_false, or_true, true_or, false_or, or_false, Nat.reduceAdd, Nat.reduceEqDiff, Nat.reduceDiv, Nat.reduceLT, Nat.reduceLeDiff, Nat.zero_add, reduceCtorEq, Bool.false_eq_true, Option.toList_some, Option.toList_none, List.cons_append, List.nil_append, not_true_eq_false, not_false_eq_true, Nat.sub_zero, dsX7_write_0, dsX7_write_1, jsX7_write, xcX7_write, gb, ry246, ky246, ly246, z0, z1]
    have hlp := loop (x.1.length - 1) 1 (tI Y (A 246) 0 96) (-1) 0 (by omega) (by decide) (hC3.tI hO (by decide) rfl) (fun j hj => by
      have ne : ¬ A 245 = A 246 := hO.ne rfl rfl (by decide)
      simp only [haI, ne, false_and, if_false]
      rw [b3, hE]
      exact wbl_loc _ _ _ _ _ (vby j hj)) (by
      simp only [hmI]
      rw [b1, hl1, List.length_append, nb_len, nb_len]) (fun j hj => by
      have : j = 0 := by omega
      subst this
      simp only [haI, and_self, if_true]
      unfold cst
      rw [hl1, List.take_zero]; rfl) (by
      unfold LW
      rw [hE]
      exact ⟨rfl, Or.inl ⟨rfl, rfl⟩⟩)
    rw [hE] at hlp
    exact hlp
  have clr : ∀ d k U, k + d = 256 → MC O A m [245, 246, 247] M U → (∀ j, j < k → aI U (A 245) j = 0) → G 2 [(0, .ref m), (1, .int (nI s)), (2, .int (nI b)), (3, .int (nI k))] [] U 0 0 := by
    intro d
    induction d with
    | zero =>
      intro k U hk hC hby
      have e1 : ¬ nI k < 256 := nI_nlt (b := 256) (by omega) (by omega)
      refine e_g2 hG [(22, [0, 1, 2])] 60 ?_
      simp only [e_wp_s, Option.getD_some, Option.isSome_some, Option.isSome_none, xis0, xis1, xis2, xis3, xis4, e_ks, lk_k, lk_c, List.lookup_nil, gt_c, vi_i, k1_n, k1_c, k2_n, k2_c, ar_n, ar_c, pk_n, pk_c, rm_0, rm_1, rm_2, rm_3, rm_4, rm_5, rc_9, rcs, fvs, rf_s, rf_n, isI_i, isL_l, isR_r, isR_n, isR_q, ct_i, ct_l, ct_r, ct_n, ct_q, tFs, tCs, tKs, tJs, tSs, e_nf, lgs, ↓reduceIte, true_and, and_true, false_and, and_false, or_true, true_or, false_or, or_false, Nat.reduceAdd, Nat.reduceEqDiff, Nat.reduceDiv, Nat.reduceLT, Nat.reduceLeDiff, Nat.zero_add, reduceCtorEq, Bool.false_eq_true, Option.toList_some, Option.toList_none, List.cons_append, List.nil_append, not_true_eq_false, not_false_eq_true, Nat.sub_zero, dsX7_write_0, dsX7_write_1, jsX7_write, xcX7_write, e1]
      exact first U hC (fun j hj => hby j (by omega))
    | succ d ih =>
      intro k U hk hC hby
      have hMU := hC.ms hM
      have g0 := hMU.1
      obtain ⟨r245, k245, l245⟩ : mR U 245 m = some (A 245) ∧ mK U (A 245) = 9 ∧ mN U (A 245) = 256 := hMU.2 245 rfl
      have e1 : nI k < 256 := nI_lt (b := 256) (by omega) (by decide)
      have i1 : (nI k).toNatClampNeg = k := nI_clamp (by omega)
      have i2 : vp_in (nI k) 256 := vp_in_nI (by omega) (by decide)
      refine e_g2 hG [(2, [0, 1, 2, 3])] 60 ?_
      simp only [e_wp_s, Option.getD_some, Option.isSome_some, Option.isSome_none, xis0, xis1, xis2, xis3, xis4, e_ks, lk_k, lk_c, List.lookup_nil, gt_c, vi_i, k1_n, k1_c, k2_n, k2_c, ar_n, ar_c, pk_n, pk_c, rm_0, rm_1, rm_2, rm_3, rm_4, rm_5, rc_9, rcs, fvs, rf_s, rf_n, isI_i, isL_l, isR_r, isR_n, isR_q, ct_i, ct_l, ct_r, ct_n, ct_q, tFs, tCs, tKs, tJs, tSs, e_nf, lgs, ↓reduceIte, true_and, and_true, false_and, and_false, or_true, true_or, false_or, or_false, Nat.reduceAdd, Nat.reduceEqDiff, Nat.reduceDiv, Nat.reduceLT, Nat.reduceLeDiff, Nat.zero_add, reduceCtorEq, Bool.false_eq_true, Option.toList_some, Option.toList_none, List.cons_append, List.nil_append, not_true_eq_false, not_false_eq_true, Nat.sub_zero, dsX7_write_0, dsX7_write_1, jsX7_write, xcX7_write, g0, r245, k245, l245, e1, i1, i2, nI_1]
      refine ih (k + 1) _ (by omega) (hC.tI hO (by decide) rfl) (fun j hj => ?_)
      simp only [haI, true_and]
      by_cases c : j = k
      · rw [if_pos c]
      · rw [if_neg c]; exact hby j (by omega)
  refine e_g2 hG [(2, [0, 1, 2, 3])] 60 ?_
  simp only [e_wp_s, Option.getD_some, Option.isSome_some, Option.isSome_none, xis0, xis1, xis2, xis3, xis4, e_ks, lk_k, lk_c, List.lookup_nil, gt_c, vi_i, k1_n, k1_c, k2_n, k2_c, ar_n, ar_c, pk_n, pk_c, rm_0, rm_1, rm_2, rm_3, rm_4, rm_5, rc_9, rcs, fvs, rf_s, rf_n, isI_i, isL_l, isR_r, isR_n, isR_q, ct_i, ct_l, ct_r, ct_n, ct_q, tFs, tCs, tKs, tJs, tSs, e_nf, lgs, ↓reduceIte, true_and, and_true, false_and, and_false, or_true, true_or, false_or, or_false, Nat.reduceAdd, Nat.reduceEqDiff, Nat.reduceDiv, Nat.reduceLT, Nat.reduceLeDiff, Nat.zero_add, reduceCtorEq, Bool.false_eq_true, Option.toList_some, Option.toList_none, List.cons_append, List.nil_append, not_true_eq_false, not_false_eq_true, Nat.sub_zero, dsX7_write_0, dsX7_write_1, jsX7_write, xcX7_write]
  exact clr 256 0 M (by omega) MC.rf (fun j hj => by omega)
