/-! Series: spans opened, points taken into them -/
theorem SRep.base2 {S : Nat → Nat × Nat → Prop} {O O' : GH} {M N : HM} {s : Nat} {kd : Int32} {lab : Nat → Int32} {sp : List SPN} {bk : List BLK} {lt : List PT} (h : SRep O M s kd lab sp bk lt) (hF : Fr S O O' M N) (hS : ∀ a, mK M a ≠ 1 → mK M a ≠ 6 → O a = (s, s) → ¬ S a (s, s)) :
    (SR N s ∧ SO O' N s) ∧ HDr N s kd lab ∧ (mI N 131 s = mI M 131 s ∧ sps N s = sps M s ∧ aR N (sps M s) = aR M (sps M s)) ∧ LTr N s lt ∧ mI N 133 s = mI M 133 s ∧ bks N s = bks M s ∧ aR N (bks M s) = aR M (bks M s) := by
  obtain ⟨⟨⟨k0, ⟨a1, a2, a3⟩, ⟨b1, b2, b3⟩, ⟨c1, c2, c3⟩, ⟨d1, d2, d3⟩, ⟨e1, e2, e3⟩⟩, ⟨o0, o1, o2, o3, o4, o5, o6⟩⟩, ⟨hk, hl⟩, ⟨hs1, hs2⟩, hb, ⟨ht1, ht2, ht3⟩⟩ := h
  have get : ∀ a, mK M a ≠ 0 → mK M a ≠ 1 → mK M a ≠ 6 → O a = (s, s) → Sm a M N := fun a h1 h2 h2' h3 => (hF a h1).2.2 (by rw [h3]; exact hS a h2 h2' h3)
  have kO : ∀ a, mK M a ≠ 0 → O a = (s, s) → O' a = (s, s) := fun a h1 h3 => (hF a h1).2.1.trans h3
  have m0 := get s (by rw [k0]; decide) (by rw [k0]; decide) (by rw [k0]; decide) o0
  have m1 := get _ (by rw [a2]; decide) (by rw [a2]; decide) (by rw [a2]; decide) o1
  have m2 := get _ (by rw [b2]; decide) (by rw [b2]; decide) (by rw [b2]; decide) o2
  have m3 := get _ (by rw [c2]; decide) (by rw [c2]; decide) (by rw [c2]; decide) o3
  have m4 := get _ (by rw [d2]; decide) (by rw [d2]; decide) (by rw [d2]; decide) o4
  have m5 := get _ (by rw [e2]; decide) (by rw [e2]; decide) (by rw [e2]; decide) o5
  have eR := m0.2.2.2.2.1
  have eI := m0.2.2.1
  have q1 : lb N s = lb M s := by unfold lb; rw [eR]
  have q2 : sps N s = sps M s := by unfold sps; rw [eR]
  have q3 : bks N s = bks M s := by unfold bks; rw [eR]
  have q4 : ltt N s = ltt M s := by unfold ltt; rw [eR]
  have q5 : ltv N s = ltv M s := by unfold ltv; rw [eR]
  refine ⟨⟨⟨m0.1.trans k0, ⟨?_, ?_, ?_⟩, ⟨?_, ?_, ?_⟩, ⟨?_, ?_, ?_⟩, ⟨?_, ?_, ?_⟩, ⟨?_, ?_, ?_⟩⟩, ⟨?_, ?_, ?_, ?_, ?_, ?_, ?_⟩⟩, ⟨?_, ?_⟩, ⟨eI _, q2, m2.2.2.2.2.2.2.2⟩, ⟨?_, ht2, ?_⟩, eI _, q3, m3.2.2.2.2.2.2.2⟩
  · rw [eR, q1]; exact a1
  · rw [q1, m1.1]; exact a2
  · rw [q1, m1.2.1]; exact a3
  · rw [eR, q2]; exact b1
  · rw [q2, m2.1]; exact b2
  · rw [q2, m2.2.1]; exact b3
  · rw [eR, q3]; exact c1
  · rw [q3, m3.1]; exact c2
  · rw [q3, m3.2.1]; exact c3
  · rw [eR, q4]; exact d1
  · rw [q4, m4.1]; exact d2
  · rw [q4, m4.2.1]; exact d3
  · rw [eR, q5]; exact e1
  · rw [q5, m5.1]; exact e2
  · rw [q5, m5.2.1]; exact e3
  · exact kO s (by rw [k0]; decide) o0
  · rw [q1]; exact kO _ (by rw [a2]; decide) o1
  · rw [q2]; exact kO _ (by rw [b2]; decide) o2
  · rw [q3]; exact kO _ (by rw [c2]; decide) o3
  · rw [q4]; exact kO _ (by rw [d2]; decide) o4
  · rw [q5]; exact kO _ (by rw [e2]; decide) o5
  · rw [q1, q4]; exact o6
  · rw [eI]; exact hk
  · intro i hi; rw [q1, m1.2.2.2.2.2.1]; exact hl i hi
  · rw [eI]; exact ht1
  · rw [q4, q5, m4.2.2.2.2.2.1, m5.2.2.2.2.2.2.1]; exact ht3
/-- one span changes -/
theorem SRep.spn {O : GH} {M N : HM} {s i p : Nat} {kd : Int32} {lab : Nat → Int32} {sp : List SPN} {bk : List BLK} {lt : List PT} {x : SPN} (h : SRep O M s kd lab sp bk lt) (hi : i < 60) (hp : aR M (sps M s) i = some p) (hK : mK N = mK M) (hF : ∀ a, a ≠ p → Sm a M N) (hB : SPK N p x) : SRep O N s kd lab (sp.set i x) bk lt ∧ Fr (Ss s) O O M N := by
  obtain ⟨hpk, hpo⟩ := h.2.2.1.2.2.1 i p hi hp
  have hFr : Fr (fun a _ => a = p) O O M N := fr_K hK hF
  obtain ⟨h1, h2, ⟨h3, h3', h3''⟩, h4, h5, h6, h7⟩ := h.base2 hFr (fun a _ ha _ e => ha (by rw [e]; exact hpk))
  refine ⟨⟨h1, h2, ⟨?_, ?_⟩, ⟨?_, ?_⟩, h4⟩, ?_⟩
  · rw [h3, List.length_set]; exact h.2.2.1.1
  · rw [h3', h3'']
    refine h.2.2.1.2.upd hp hi (fun a ha hq => by rw [hK]; exact hq) (fun a y ha hq hx => hx.fr (hF a ha)) ⟨by rw [hK]; exact hpk, hpo⟩ hB
  · rw [h5]; exact h.2.2.2.1.1
  · rw [h6, h7]
    have tr : ∀ b l f, BRep O M s b l f → BRep O N s b l f := fun b l f hb => by
      obtain ⟨⟨w1, w2, w3, w4, w5⟩, ⟨o1, o2⟩, h3, -⟩ := id hb
      exact hb.fr (hF b (fun e => by rw [e, hpk] at w1; cases w1)) (hF _ (fun e => by rw [e, hpk] at w3; cases w3)) (fun z hz => hF z (fun e => by have := (w5 z hz).1; rw [e, hpk] at this; cases this)) (fun _ _ => rfl)
    exact h.2.2.2.1.2.mono (fun _ _ _ _ ⟨l, f, q⟩ => ⟨l, f, tr _ _ _ q⟩) (fun _ _ _ _ _ q => tr _ _ _ q)
  · exact fr_K hK (fun a ha => hF a (fun e => ha (by show (O a).1 = s; rw [e, hpo])))
def opS (M : HM) (p : Nat) (x y : Int32) : HM := sL (sI (sI (sI M 160 p x) 161 p y) 162 p 0) 163 p 0
theorem opS_sm {M : HM} {p a : Nat} {x y : Int32} (h : a ≠ p) : Sm a M (opS M p x y) := sm_sL h (sm_sI h (sm_sI h (sm_sI h Sm.rf)))
theorem opS_k (M : HM) (p : Nat) (x y : Int32) : SPK (opS M p x y) p (x, y, 0, 0, mL M 164 p, mL M 165 p, mL M 166 p, mL M 167 p) := by
  unfold opS SPK
  simp only [hmI, hmL, Nat.reduceEqDiff, false_and, and_self, if_false, if_true]
theorem opS_e : (∀ M p x y, mK (opS M p x y) = mK M) ∧ (∀ M p x y, mN (opS M p x y) = mN M) ∧ (∀ M p x y, mR (opS M p x y) = mR M) ∧ (∀ M p x y, aR (opS M p x y) = aR M) ∧ (∀ M p x y s, sps (opS M p x y) s = sps M s) ∧ (∀ M p x y s, mI (opS M p x y) 131 s = mI M 131 s) := ⟨fun _ _ _ _ => rfl, fun _ _ _ _ => rfl, fun _ _ _ _ => rfl, fun _ _ _ _ => rfl, fun _ _ _ _ _ => rfl, fun M p x y s => by unfold opS; simp only [hmI, Nat.reduceEqDiff, false_and, if_false]⟩
theorem opS_t (M : HM) (p a i : Nat) (x y : Int32) (v : Option Nat) : opS (tR M a i v) p x y = tR (opS M p x y) a i v := rfl
theorem opS_d (M : HM) (p : Nat) (x y : Int32) : sL (sI (sI (sI M 160 p x) 161 p y) 162 p 0) 163 p 0 = opS M p x y := rfl
theorem newS {O : GH} {M : HM} {s q : Nat} {x y : Int32} (hq : mK M q = 0) : mK (opS (inS (nO M 5 q) q) q x y) q = 6 ∧ Fr (fun _ _ => False) O (O1 O q (s, s)) M (opS (inS (nO M 5 q) q) q x y) := by
  refine ⟨?_, fun a ha => ?_⟩
  · unfold opS inS; simp only [hmK, if_true]
  · have a1 : a ≠ q := fun e => by rw [e, hq] at ha; exact ha rfl
    have hS : Sm a M (opS (inS (nO M 5 q) q) q x y) := by
      refine Sm.tr ?_ (opS_sm a1)
      unfold inS
      exact sm_sL a1 (sm_sL a1 (sm_sL a1 (sm_sL a1 (sm_sL a1 (sm_sI a1 (sm_sI a1 (sm_sI a1 (sm_nO a1 Sm.rf))))))))
    exact ⟨hS.1, by simp [O1, a1], fun _ => hS⟩
theorem SRep.pushS {O : GH} {M U : HM} {s p : Nat} {kd : Int32} {lab : Nat → Int32} {sp : List SPN} {bk : List BLK} {lt : List PT} {x : SPN} (h : SRep O M s kd lab sp bk lt) (hX : ArX M U (sps M s) (sps M s)) (hl : sp.length < 60) (hP : mK M p = 6 ∧ O p = (s, s)) (hB : SPK M p x) (hg : ∀ i, i ≠ sp.length → aR U (sps M s) i = aR M (sps M s) i) (hb : aR U (sps M s) sp.length = some p) (hn : ∀ i, i < 60 → i ≠ sp.length → aR M (sps M s) i ≠ some p) :
    SRep O (sI U 131 s (nI (sp.length + 1))) s kd lab (sp ++ [x]) bk lt ∧ Fr (Ss s) O O M (sI U 131 s (nI (sp.length + 1))) ∧ aR (sI U 131 s (nI (sp.length + 1))) (sps (sI U 131 s (nI (sp.length + 1))) s) sp.length = some p := by
  have hr := h.2.2.1.2.push (g' := aR U (sps M s)) (P' := fun p => mK M p = 6 ∧ O p = (s, s)) (R' := SPK M) (y := x) hl hg hb hn (fun _ _ q => q) (fun _ _ _ _ q => q) hP hB
  have := h.r131 (bk' := bk) (lt' := lt) hX hr
  rw [List.length_append] at this
  refine ⟨this.1, this.2, ?_⟩
  have e : sps (sI U 131 s (nI (sp.length + 1))) s = sps M s := by
    show ((mR U) 130 s).getD 0 = _
    rw [hX.2.2.2.2.1]; rfl
  rw [e]
  exact hb
def csX4_openSpan : CS := (cs_c 1 151 1 5 sp_X5_init (cs_c 0 152 3 5 sp_X5_open cs_0))
theorem csoX4_openSpan : ∀ op x na cl sp, csX4_openSpan op x = some (na, cl, sp) → CallOK 4 2 40 op x na cl sp := (cs_c_ok (caX4_openSpan_151 okX5_init) (cs_c_ok (caX4_openSpan_152 okX5_open) cs_0_ok))
theorem xcX4_openSpan : (∀ (Q : QT) (G : GT) (pc : Nat) (L : LV) (a0 : Value) (r : List Value) (M : HM) (k n : Nat), ex_i 4 4 3 false csX4_openSpan Q G (.invokespecial 151) pc L (a0 :: r) M k n = (e_rm r ∧ e_rc M 5 [a0] ∧ sp_X5_init [a0] M k n (fun v M' k' n' => G (pc + 3) L (v.toList ++ r) M' k' n'))) ∧ (∀ (Q : QT) (G : GT) (pc : Nat) (L : LV) (a0 a1 a2 : Value) (r : List Value) (M : HM) (k n : Nat), ex_i 4 4 3 false csX4_openSpan Q G (.invokevirtual 152) pc L (a2 :: a1 :: a0 :: r) M k n = (e_rm r ∧ e_rc M 5 [a0, a1, a2] ∧ sp_X5_open [a0, a1, a2] M k n (fun v M' k' n' => G (pc + 3) L (v.toList ++ r) M' k' n'))) := ⟨(fun _ _ _ _ _ _ _ _ _ => xv1_1 rfl), (fun _ _ _ _ _ _ _ _ _ _ _ => xv0_3 rfl)⟩
def sp_X4_openSpan : SP := fun as M k n Q => match as with
  | [.ref s, .int u, .int w] => ∃ O kd lab sp bk lt, SRep O M s kd lab sp bk lt ∧ sp.length < 60 ∧ 1 ≤ k ∧ 8 ≤ n ∧ ∀ O' M' p c1 c2 c3 c4, SRep O' M' s kd lab (sp ++ [(u, w, 0, 0, c1, c2, c3, c4)]) bk lt → aR M' (sps M' s) sp.length = some p → Fr (Ss s) O O' M M' → Q (some (.ref p)) M' (k - 1) (n - 8)
  | _ => False
set_option maxRecDepth 20000 in
theorem okX4_openSpan : OkX4_openSpan sp_X4_openSpan := by
  refine inX4_openSpan csoX4_openSpan ?_
  intro as M k n Q hsp
  unfold sp_X4_openSpan at hsp
  split at hsp
  rotate_left
  · exact hsp.elim
  rename_i s u w
  obtain ⟨O, kd, lab, sp, bk, lt, hS, h60, hk, hn, hq⟩ := hsp
  obtain ⟨⟨h0, -, ⟨h1, h2, h3⟩, -⟩, hO⟩ := id hS.1
  have hc := hS.2.2.1.1
  have e1 : ¬ nI sp.length < 0 := nI_pos (by omega)
  have e2 : nI sp.length < 60 := nI_lt (b := 60) h60 (by decide)
  have e3 : (nI sp.length).toNatClampNeg = sp.length := nI_clamp (by omega)
  have e4 : vp_in (nI sp.length) 60 := vp_in_nI h60 (by decide)
  refine ⟨1, 8, hk, hn, Nat.le_of_ble_eq_true rfl, fun G hG => ?_⟩
  cases hg : aR M (sps M s) sp.length with
  | none =>
    refine e_g2 hG [(42, [0, 1, 2])] 80 ?_
    simp only [e_wp_s, Option.getD_some, Option.isSome_some, Option.isSome_none, xis0, xis1, xis2, xis3, xis4, e_ks, lk_k, lk_c, List.lookup_nil, gt_c, vi_i, k1_n, k1_c, k2_n, k2_c, ar_n, ar_c, pk_n, pk_c, rm_0, rm_1, rm_2, rm_3, rm_4, rm_5, rc_9, rcs, fvs, rf_s, rf_n, isI_i, isL_l, isR_r, isR_n, isR_q, ct_i, ct_l, ct_r, ct_n, ct_q, tFs, tCs, tKs, tJs, tSs, e_nf, lgs, ↓reduceIte, true_and, and_true, false_and, and_false, or_true, true_or, false_or, or_false, Nat.reduceAdd, Nat.reduceEqDiff, Nat.reduceDiv, Nat.reduceLT, Nat.reduceLeDiff, Nat.zero_add, reduceCtorEq, Bool.false_eq_true, Option.toList_some, Option.toList_none, List.cons_append, List.nil_append, not_true_eq_false, not_false_eq_true, Nat.sub_zero, dsX4_openSpan, jsX4_openSpan, xcX4_openSpan, h0, h1, h2, h3, hc, e1, e2, e3, e4, hg, ofs, ↓sp_X5_init, hmK, hmN, hmI, hmL, hmR, haI, haL, haR]
    intro q hq0
    obtain ⟨hqk, hF⟩ := newS (O := O) (s := s) (x := u) (y := w) hq0
    have hS2 := hS.frm hF (fun _ _ _ z => z)
    have hB := opS_k (inS (nO M 5 q) q) q u w
    have hgr : ∀ i, i < 60 → aR (opS (inS (nO M 5 q) q) q u w) (sps (opS (inS (nO M 5 q) q) q u w) s) i ≠ some q := by
      intro i hi e
      have h5 := hS.base2 hF (fun _ _ _ _ z => z)
      rw [h5.2.2.1.2.1, h5.2.2.1.2.2] at e
      have := (hS.2.2.1.2.2.1 i q hi e).1
      rw [hq0] at this
      cases this
    have xq : mK (inS (nO M 5 q) q) q = 6 := by rw [opS_e.1] at hqk; exact hqk
    obtain ⟨⟨x0, -, ⟨x1, x2, x3⟩, -⟩, xO⟩ := id hS2.1
    have xc := hS2.2.2.1.1
    have xO2 : O1 O q (s, s) q = (s, s) := by unfold O1; rw [if_pos rfl]
    generalize inS (nO M 5 q) q = X at *
    simp only [opS_e] at x0 x1 x2 x3 xc hgr
    have hp := hS2.pushS (U := tR (opS X q u w) (sps X s) sp.length (some q)) (p := q) (by rw [opS_e.2.2.2.2.1]; exact ArX.rf.tR (Or.inl rfl)) h60 ⟨hqk, xO2⟩ hB (fun i hi => by rw [opS_e.2.2.2.2.1]; simp only [haR, hi, and_false, if_false]) (by rw [opS_e.2.2.2.2.1]; simp only [haR, and_self, if_true]) (fun i hi _ => by simp only [opS_e]; exact hgr i hi)
    rw [← opS_t] at hp
    refine e_g2 hG [] 80 ?_
    simp only [e_wp_s, Option.getD_some, Option.isSome_some, Option.isSome_none, xis0, xis1, xis2, xis3, xis4, e_ks, lk_k, lk_c, List.lookup_nil, gt_c, vi_i, k1_n, k1_c, k2_n, k2_c, ar_n, ar_c, pk_n, pk_c, rm_0, rm_1, rm_2, rm_3, rm_4, rm_5, rc_9, rcs, fvs, rf_s, rf_n, isI_i, isL_l, isR_r, isR_n, isR_q, ct_i, ct_l, ct_r, ct_n, ct_q, tFs, tCs, tKs, tJs, tSs, e_nf, lgs, ↓reduceIte, true_and, and_true, false_and, and_false, or_true, true_or, false_or, or_false, Nat.reduceAdd, Nat.reduceEqDiff, Nat.reduceDiv, Nat.reduceLT, Nat.reduceLeDiff, Nat.zero_add, reduceCtorEq, Bool.false_eq_true, Option.toList_some, Option.toList_none, List.cons_append, List.nil_append, not_true_eq_false, not_false_eq_true, Nat.sub_zero, dsX4_openSpan, jsX4_openSpan, xcX4_openSpan, x0, x1, x2, x3, xc, xq, e1, e2, e3, e4, ofs, hmK, hmN, hmI, hmL, hmR, haI, haL, haR, nI_1, ↓sp_X5_open, opS_d, opS_e]
    refine ⟨rfl, ?_⟩
    exact hq _ _ _ _ _ _ _ hp.1 hp.2.2 ((hF.mono (fun _ _ z => z.elim)).tr hp.2.1)
  | some p =>
    obtain ⟨hpk, hpo⟩ := hS.2.2.1.2.2.1 _ p h60 hg
    have hB := opS_k M p u w
    have hS2 := hS.spn (N := opS M p u w) h60 hg (opS_e.1 _ _ _ _) (fun a ha => opS_sm ha) hB
    rw [List.set_eq_of_length_le (Nat.le_refl _)] at hS2
    have hp := hS2.1.pushS (U := opS M p u w) (p := p) ArX.rf h60 ⟨by rw [opS_e.1]; exact hpk, hpo⟩ hB (fun i hi => rfl) (by simp only [opS_e]; exact hg) (fun i hi hne e => hne (by simp only [opS_e] at e; exact hS.2.2.1.2.2.2.2 i _ p hi h60 e hg))
    refine e_g2 hG [] 80 ?_
    simp only [e_wp_s, Option.getD_some, Option.isSome_some, Option.isSome_none, xis0, xis1, xis2, xis3, xis4, e_ks, lk_k, lk_c, List.lookup_nil, gt_c, vi_i, k1_n, k1_c, k2_n, k2_c, ar_n, ar_c, pk_n, pk_c, rm_0, rm_1, rm_2, rm_3, rm_4, rm_5, rc_9, rcs, fvs, rf_s, rf_n, isI_i, isL_l, isR_r, isR_n, isR_q, ct_i, ct_l, ct_r, ct_n, ct_q, tFs, tCs, tKs, tJs, tSs, e_nf, lgs, ↓reduceIte, true_and, and_true, false_and, and_false, or_true, true_or, false_or, or_false, Nat.reduceAdd, Nat.reduceEqDiff, Nat.reduceDiv, Nat.reduceLT, Nat.reduceLeDiff, Nat.zero_add, reduceCtorEq, Bool.false_eq_true, Option.toList_some, Option.toList_none, List.cons_append, List.nil_append, not_true_eq_false, not_false_eq_true, Nat.sub_zero, dsX4_openSpan, jsX4_openSpan, xcX4_openSpan, h0, h1, h2, h3, hc, hpk, e1, e2, e3, e4, hg, ofs, hmK, hmN, hmI, hmL, hmR, haI, haL, haR, nI_1, ↓sp_X5_open, opS_d, opS_e]
    exact hq _ _ _ _ _ _ _ hp.1 hp.2.2 (hS2.2.tr hp.2.1)
