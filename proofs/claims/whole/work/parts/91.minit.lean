/-! the reference: a new one -/
def IN (m : Nat) (O0 : GH) (M0 : HM) (fs gs : List Nat) (A : Nat → Nat) (O : GH) (M : HM) : Prop :=
  (mK M m = 8 ∧ O m = (m, m)) ∧ (∀ f, f ∈ fs → mR M f m = some (A f) ∧ mK M (A f) = akd f ∧ mN M (A f) = aln f ∧ (∀ i, aI M (A f) i = 0 ∧ aL M (A f) i = 0) ∧ O (A f) = (m, f)) ∧ (∀ g, g ∈ gs → mI M g m = 0) ∧ Fr (fun a _ => a = m) O0 O M0 M
theorem akd_0 (f : Nat) : akd f ≠ 0 := by unfold akd; split <;> decide
theorem IN.ar {m f q : Nat} {O0 O : GH} {M0 M : HM} {fs gs : List Nat} {A : Nat → Nat} (h : IN m O0 M0 fs gs A O M) (hf : f ∉ fs) (hq : mK M q = 0) {t z : Nat} (ht : t = akd f) (hz : z = aln f) : IN m O0 M0 (f :: fs) gs (fun g => if g = f then q else A g) (O1 O q (m, f)) (sR (nA M t q z) f m (some q)) := by
  obtain ⟨⟨h1, h2⟩, h3, h4, h5⟩ := h
  have hmq : ¬ m = q := fun e => by rw [e, hq] at h1; cases h1
  refine ⟨⟨?_, ?_⟩, fun g hg => ?_, fun g hg => ?_, fun a ha => ?_⟩
  · simp only [hmK]; rw [if_neg hmq]; exact h1
  · unfold O1; rw [if_neg hmq]; exact h2
  · rcases List.mem_cons.mp hg with e | e
    · subst e
      simp only [hmR, hmK, hmN, haI, haL, if_true, and_self, ht, hz]
      exact ⟨trivial, trivial, trivial, fun _ => trivial, by unfold O1; rw [if_pos rfl]⟩
    · have hgf : ¬ g = f := fun z => hf (by rw [← z]; exact e)
      obtain ⟨g1, g2, g3, g4, g5⟩ := h3 g e
      have hAq : ¬ A g = q := fun z => by rw [z, hq] at g2; exact akd_0 g g2.symm
      simp only [hmR, hmK, hmN, haI, haL, hgf, hAq, false_and, if_false]
      refine ⟨g1, g2, g3, g4, ?_⟩
      unfold O1; rw [if_neg hAq]; exact g5
  · simp only [hmI]; exact h4 g hg
  · obtain ⟨f1, f2, f3⟩ := h5 a ha
    have haq : ¬ a = q := fun z => by rw [z, hq] at f1; exact ha (by rw [z]; exact f1.symm)
    refine ⟨?_, ?_, fun hs => sm_sR hs (sm_nA haq (f3 hs))⟩
    · simp only [hmK]; rw [if_neg haq]; exact f1
    · unfold O1; rw [if_neg haq]; exact f2
theorem IN.it {m g : Nat} {O0 O : GH} {M0 M : HM} {fs gs : List Nat} {A : Nat → Nat} (h : IN m O0 M0 fs gs A O M) : IN m O0 M0 fs (g :: gs) A O (sI M g m 0) := by
  obtain ⟨⟨h1, h2⟩, h3, h4, h5⟩ := h
  refine ⟨⟨?_, h2⟩, fun f hf => ?_, fun f hf => ?_, fun a ha => ?_⟩
  · simp only [hmK]; exact h1
  · simp only [hmR, hmK, hmN, haI, haL]; exact h3 f hf
  · simp only [hmI, and_true]
    by_cases c : f = g
    · rw [if_pos c]
    · rw [if_neg c]
      rcases List.mem_cons.mp hf with e | e
      · exact absurd e c
      · exact h4 f e
  · obtain ⟨f1, f2, f3⟩ := h5 a ha
    exact ⟨by simp only [hmK]; exact f1, f2, fun hs => sm_sI hs (f3 hs)⟩
abbrev FAll : List Nat := [252, 251, 246, 245, 244, 243, 242, 241, 240, 239, 238, 237, 236, 235, 234, 233, 232, 231, 230, 229, 228, 227, 226, 225]
theorem isA_all : ∀ f, isA f = true → f ∈ FAll := by
  have h : ∀ f, f < 253 → isA f = true → f ∈ FAll := by decide +kernel
  intro f hf
  refine h f ?_ hf
  unfold isA at hf
  by_cases c : f < 253
  · exact c
  · have c1 : Nat.ble f 246 = false := by
      cases hb : Nat.ble f 246 with
      | false => rfl
      | true => have := Nat.le_of_ble_eq_true hb; omega
    have c2 : (f == 251) = false := by simp; omega
    have c3 : (f == 252) = false := by simp; omega
    rw [c1, c2, c3] at hf
    simp at hf
def csX7_init : CS := (cs_c 1 1 1 9 sp_obj cs_0)
theorem csoX7_init : ∀ op x na cl sp, csX7_init op x = some (na, cl, sp) → CallOK 7 1 20 op x na cl sp := (cs_c_ok caX7_init_1 cs_0_ok)
theorem xcX7_init : (∀ (Q : QT) (G : GT) (pc : Nat) (L : LV) (a0 : Value) (r : List Value) (M : HM) (k n : Nat), ex_i 7 1 0 true csX7_init Q G (.invokespecial 1) pc L (a0 :: r) M k n = (e_rm r ∧ e_rc M 9 [a0] ∧ sp_obj [a0] M k n (fun v M' k' n' => G (pc + 3) L (v.toList ++ r) M' k' n'))) := (fun _ _ _ _ _ _ _ _ _ => xv1_1 rfl)
def sp_X7_init : SP := fun as M k n Q => match as with
  | [.ref m] => ∃ O, mK M m = 8 ∧ O m = (m, m) ∧ 24 ≤ k ∧ 669396 ≤ n ∧ ∀ A O' M', MRp A O' M' m [] (0, 0, 0) → Fr (fun a _ => a = m) O O' M M' → Q none M' (k - 24) (n - 669396)
  | _ => False
set_option maxHeartbeats 800000 in
set_option maxRecDepth 20000 in
theorem okX7_init : OkX7_init sp_X7_init := by
  refine inX7_init csoX7_init ?_
  intro as M k n Q hsp
  unfold sp_X7_init at hsp
  split at hsp
  rotate_left
  · exact hsp.elim
  rename_i m
  obtain ⟨O0, hb, ho, hk, hn, hq⟩ := hsp
  refine ⟨24, 669396, hk, hn, Nat.le_of_ble_eq_true rfl, fun G hG => ?_⟩
  have z8 : ¬ (8 : Int32) < 0 := by decide
  have y8 : (8 : Int32).toNatClampNeg = 8 := rfl
  have z16 : ¬ (16 : Int32) < 0 := by decide
  have y16 : (16 : Int32).toNatClampNeg = 16 := rfl
  have z64 : ¬ (64 : Int32) < 0 := by decide
  have y64 : (64 : Int32).toNatClampNeg = 64 := rfl
  have z256 : ¬ (256 : Int32) < 0 := by decide
  have y256 : (256 : Int32).toNatClampNeg = 256 := rfl
  have z350 : ¬ (350 : Int32) < 0 := by decide
  have y350 : (350 : Int32).toNatClampNeg = 350 := rfl
  have z400 : ¬ (400 : Int32) < 0 := by decide
  have y400 : (400 : Int32).toNatClampNeg = 400 := rfl
  have z560 : ¬ (560 : Int32) < 0 := by decide
  have y560 : (560 : Int32).toNatClampNeg = 560 := rfl
  have z2560 : ¬ (2560 : Int32) < 0 := by decide
  have y2560 : (2560 : Int32).toNatClampNeg = 2560 := rfl
  have z655360 : ¬ (655360 : Int32) < 0 := by decide
  have y655360 : (655360 : Int32).toNatClampNeg = 655360 := rfl
  have s242 : ∀ A O M', IN m O0 M [252, 251, 246, 245, 244, 243, 242, 241, 240, 239, 238, 237, 236, 235, 234, 233, 232, 231, 230, 229, 228, 227, 226, 225] [253, 250, 249, 248, 247, 224] A O M' → G 242 [(0, .ref m)] [] M' 0 0 := by
    intro A O M' h
    refine e_g2 hG [] 20 ?_
    simp only [e_wp_s, Option.getD_some, Option.isSome_some, Option.isSome_none, xis0, xis1, xis2, xis3, xis4, e_ks, lk_k, lk_c, List.lookup_nil, gt_c, vi_i, k1_n, k1_c, k2_n, k2_c, ar_n, ar_c, pk_n, pk_c, rm_0, rm_1, rm_2, rm_3, rm_4, rm_5, rc_9, rcs, fvs, rf_s, rf_n, isI_i, isL_l, isR_r, isR_n, isR_q, ct_i, ct_l, ct_r, ct_n, ct_q, tFs, tCs, tKs, tJs, tSs, e_nf, lgs, ↓reduceIte, true_and, and_true, false_and, and_false, or_true, true_or, false_or, or_false, Nat.reduceAdd, Nat.reduceEqDiff, Nat.reduceDiv, Nat.reduceLT, Nat.reduceLeDiff, Nat.zero_add, reduceCtorEq, Bool.false_eq_true, Option.toList_some, Option.toList_none, List.cons_append, List.nil_append, not_true_eq_false, not_false_eq_true, Nat.sub_zero, dsX7_init, xcX7_init]
    obtain ⟨⟨h1, h2⟩, h3, h4, h5⟩ := h
    have zr : ∀ f, f ∈ FAll → ∀ i, aI M' (A f) i = 0 := fun f hf i => ((h3 f hf).2.2.2.1 i).1
    refine hq A O M' ⟨⟨h1, fun f hf => ?_⟩, ⟨h2, fun f hf => (h3 f (isA_all f hf)).2.2.2.2⟩, ⟨h4 224 (by decide), by decide⟩, fun s S hS => ?_, fun s _ _ => ⟨fun _ _ => zr 226 (by decide) _, zr 227 (by decide) s, zr 228 (by decide) s, zr 229 (by decide) s, zr 230 (by decide) s⟩, h4 248 (by decide), h4 249 (by decide), h4 250 (by decide)⟩ h5
    · exact ⟨(h3 f (isA_all f hf)).1, (h3 f (isA_all f hf)).2.1, (h3 f (isA_all f hf)).2.2.1⟩
    · simp at hS
  have s237 : ∀ A O M', IN m O0 M [252, 251, 246, 245, 244, 243, 242, 241, 240, 239, 238, 237, 236, 235, 234, 233, 232, 231, 230, 229, 228, 227, 226, 225] [250, 249, 248, 247, 224] A O M' → G 237 [(0, .ref m)] [] M' 0 0 := by
    intro A O M' h
    have y0 := h.1.1
    refine e_g2 hG [(242, [0])] 20 ?_
    simp only [e_wp_s, Option.getD_some, Option.isSome_some, Option.isSome_none, xis0, xis1, xis2, xis3, xis4, e_ks, lk_k, lk_c, List.lookup_nil, gt_c, vi_i, k1_n, k1_c, k2_n, k2_c, ar_n, ar_c, pk_n, pk_c, rm_0, rm_1, rm_2, rm_3, rm_4, rm_5, rc_9, rcs, fvs, rf_s, rf_n, isI_i, isL_l, isR_r, isR_n, isR_q, ct_i, ct_l, ct_r, ct_n, ct_q, tFs, tCs, tKs, tJs, tSs, e_nf, lgs, ↓reduceIte, true_and, and_true, false_and, and_false, or_true, true_or, false_or, or_false, Nat.reduceAdd, Nat.reduceEqDiff, Nat.reduceDiv, Nat.reduceLT, Nat.reduceLeDiff, Nat.zero_add, reduceCtorEq, Bool.false_eq_true, Option.toList_some, Option.toList_none, List.cons_append, List.nil_append, not_true_eq_false, not_false_eq_true, Nat.sub_zero, dsX7_init, xcX7_init, y0]
    exact s242 A O _ h.it
  have s228 : ∀ A O M', IN m O0 M [251, 246, 245, 244, 243, 242, 241, 240, 239, 238, 237, 236, 235, 234, 233, 232, 231, 230, 229, 228, 227, 226, 225] [250, 249, 248, 247, 224] A O M' → G 228 [(0, .ref m)] [] M' 1 350 := by
    intro A O M' h
    have y0 := h.1.1
    refine e_g2 hG [(237, [0])] 20 ?_
    simp only [e_wp_s, Option.getD_some, Option.isSome_some, Option.isSome_none, xis0, xis1, xis2, xis3, xis4, e_ks, lk_k, lk_c, List.lookup_nil, gt_c, vi_i, k1_n, k1_c, k2_n, k2_c, ar_n, ar_c, pk_n, pk_c, rm_0, rm_1, rm_2, rm_3, rm_4, rm_5, rc_9, rcs, fvs, rf_s, rf_n, isI_i, isL_l, isR_r, isR_n, isR_q, ct_i, ct_l, ct_r, ct_n, ct_q, tFs, tCs, tKs, tJs, tSs, e_nf, lgs, ↓reduceIte, true_and, and_true, false_and, and_false, or_true, true_or, false_or, or_false, Nat.reduceAdd, Nat.reduceEqDiff, Nat.reduceDiv, Nat.reduceLT, Nat.reduceLeDiff, Nat.zero_add, reduceCtorEq, Bool.false_eq_true, Option.toList_some, Option.toList_none, List.cons_append, List.nil_append, not_true_eq_false, not_false_eq_true, Nat.sub_zero, dsX7_init, xcX7_init, y0, z350, y350, hmK, hmN, hmI, hmL, hmR, haI, haL, haR]
    intro q hq0
    have hmq : ¬ m = q := fun e => by rw [e, hq0] at y0; cases y0
    simp only [hmq, if_false, true_and]
    exact s237 _ _ _ (h.ar (f := 252) (by decide) hq0 rfl rfl)
  have s219 : ∀ A O M', IN m O0 M [246, 245, 244, 243, 242, 241, 240, 239, 238, 237, 236, 235, 234, 233, 232, 231, 230, 229, 228, 227, 226, 225] [250, 249, 248, 247, 224] A O M' → G 219 [(0, .ref m)] [] M' 2 700 := by
    intro A O M' h
    have y0 := h.1.1
    refine e_g2 hG [(228, [0])] 20 ?_
    simp only [e_wp_s, Option.getD_some, Option.isSome_some, Option.isSome_none, xis0, xis1, xis2, xis3, xis4, e_ks, lk_k, lk_c, List.lookup_nil, gt_c, vi_i, k1_n, k1_c, k2_n, k2_c, ar_n, ar_c, pk_n, pk_c, rm_0, rm_1, rm_2, rm_3, rm_4, rm_5, rc_9, rcs, fvs, rf_s, rf_n, isI_i, isL_l, isR_r, isR_n, isR_q, ct_i, ct_l, ct_r, ct_n, ct_q, tFs, tCs, tKs, tJs, tSs, e_nf, lgs, ↓reduceIte, true_and, and_true, false_and, and_false, or_true, true_or, false_or, or_false, Nat.reduceAdd, Nat.reduceEqDiff, Nat.reduceDiv, Nat.reduceLT, Nat.reduceLeDiff, Nat.zero_add, reduceCtorEq, Bool.false_eq_true, Option.toList_some, Option.toList_none, List.cons_append, List.nil_append, not_true_eq_false, not_false_eq_true, Nat.sub_zero, dsX7_init, xcX7_init, y0, z350, y350, hmK, hmN, hmI, hmL, hmR, haI, haL, haR]
    intro q hq0
    have hmq : ¬ m = q := fun e => by rw [e, hq0] at y0; cases y0
    simp only [hmq, if_false, true_and]
    exact s228 _ _ _ (h.ar (f := 251) (by decide) hq0 rfl rfl)
  have s214 : ∀ A O M', IN m O0 M [246, 245, 244, 243, 242, 241, 240, 239, 238, 237, 236, 235, 234, 233, 232, 231, 230, 229, 228, 227, 226, 225] [249, 248, 247, 224] A O M' → G 214 [(0, .ref m)] [] M' 2 700 := by
    intro A O M' h
    have y0 := h.1.1
    refine e_g2 hG [(219, [0])] 20 ?_
    simp only [e_wp_s, Option.getD_some, Option.isSome_some, Option.isSome_none, xis0, xis1, xis2, xis3, xis4, e_ks, lk_k, lk_c, List.lookup_nil, gt_c, vi_i, k1_n, k1_c, k2_n, k2_c, ar_n, ar_c, pk_n, pk_c, rm_0, rm_1, rm_2, rm_3, rm_4, rm_5, rc_9, rcs, fvs, rf_s, rf_n, isI_i, isL_l, isR_r, isR_n, isR_q, ct_i, ct_l, ct_r, ct_n, ct_q, tFs, tCs, tKs, tJs, tSs, e_nf, lgs, ↓reduceIte, true_and, and_true, false_and, and_false, or_true, true_or, false_or, or_false, Nat.reduceAdd, Nat.reduceEqDiff, Nat.reduceDiv, Nat.reduceLT, Nat.reduceLeDiff, Nat.zero_add, reduceCtorEq, Bool.false_eq_true, Option.toList_some, Option.toList_none, List.cons_append, List.nil_append, not_true_eq_false, not_false_eq_true, Nat.sub_zero, dsX7_init, xcX7_init, y0]
    exact s219 A O _ h.it
  have s209 : ∀ A O M', IN m O0 M [246, 245, 244, 243, 242, 241, 240, 239, 238, 237, 236, 235, 234, 233, 232, 231, 230, 229, 228, 227, 226, 225] [248, 247, 224] A O M' → G 209 [(0, .ref m)] [] M' 2 700 := by
    intro A O M' h
    have y0 := h.1.1
    refine e_g2 hG [(214, [0])] 20 ?_
    simp only [e_wp_s, Option.getD_some, Option.isSome_some, Option.isSome_none, xis0, xis1, xis2, xis3, xis4, e_ks, lk_k, lk_c, List.lookup_nil, gt_c, vi_i, k1_n, k1_c, k2_n, k2_c, ar_n, ar_c, pk_n, pk_c, rm_0, rm_1, rm_2, rm_3, rm_4, rm_5, rc_9, rcs, fvs, rf_s, rf_n, isI_i, isL_l, isR_r, isR_n, isR_q, ct_i, ct_l, ct_r, ct_n, ct_q, tFs, tCs, tKs, tJs, tSs, e_nf, lgs, ↓reduceIte, true_and, and_true, false_and, and_false, or_true, true_or, false_or, or_false, Nat.reduceAdd, Nat.reduceEqDiff, Nat.reduceDiv, Nat.reduceLT, Nat.reduceLeDiff, Nat.zero_add, reduceCtorEq, Bool.false_eq_true, Option.toList_some, Option.toList_none, List.cons_append, List.nil_append, not_true_eq_false, not_false_eq_true, Nat.sub_zero, dsX7_init, xcX7_init, y0]
    exact s214 A O _ h.it
  have s204 : ∀ A O M', IN m O0 M [246, 245, 244, 243, 242, 241, 240, 239, 238, 237, 236, 235, 234, 233, 232, 231, 230, 229, 228, 227, 226, 225] [247, 224] A O M' → G 204 [(0, .ref m)] [] M' 2 700 := by
    intro A O M' h
    have y0 := h.1.1
    refine e_g2 hG [(209, [0])] 20 ?_
    simp only [e_wp_s, Option.getD_some, Option.isSome_some, Option.isSome_none, xis0, xis1, xis2, xis3, xis4, e_ks, lk_k, lk_c, List.lookup_nil, gt_c, vi_i, k1_n, k1_c, k2_n, k2_c, ar_n, ar_c, pk_n, pk_c, rm_0, rm_1, rm_2, rm_3, rm_4, rm_5, rc_9, rcs, fvs, rf_s, rf_n, isI_i, isL_l, isR_r, isR_n, isR_q, ct_i, ct_l, ct_r, ct_n, ct_q, tFs, tCs, tKs, tJs, tSs, e_nf, lgs, ↓reduceIte, true_and, and_true, false_and, and_false, or_true, true_or, false_or, or_false, Nat.reduceAdd, Nat.reduceEqDiff, Nat.reduceDiv, Nat.reduceLT, Nat.reduceLeDiff, Nat.zero_add, reduceCtorEq, Bool.false_eq_true, Option.toList_some, Option.toList_none, List.cons_append, List.nil_append, not_true_eq_false, not_false_eq_true, Nat.sub_zero, dsX7_init, xcX7_init, y0]
    exact s209 A O _ h.it
  have s199 : ∀ A O M', IN m O0 M [246, 245, 244, 243, 242, 241, 240, 239, 238, 237, 236, 235, 234, 233, 232, 231, 230, 229, 228, 227, 226, 225] [224] A O M' → G 199 [(0, .ref m)] [] M' 2 700 := by
    intro A O M' h
    have y0 := h.1.1
    refine e_g2 hG [(204, [0])] 20 ?_
    simp only [e_wp_s, Option.getD_some, Option.isSome_some, Option.isSome_none, xis0, xis1, xis2, xis3, xis4, e_ks, lk_k, lk_c, List.lookup_nil, gt_c, vi_i, k1_n, k1_c, k2_n, k2_c, ar_n, ar_c, pk_n, pk_c, rm_0, rm_1, rm_2, rm_3, rm_4, rm_5, rc_9, rcs, fvs, rf_s, rf_n, isI_i, isL_l, isR_r, isR_n, isR_q, ct_i, ct_l, ct_r, ct_n, ct_q, tFs, tCs, tKs, tJs, tSs, e_nf, lgs, ↓reduceIte, true_and, and_true, false_and, and_false, or_true, true_or, false_or, or_false, Nat.reduceAdd, Nat.reduceEqDiff, Nat.reduceDiv, Nat.reduceLT, Nat.reduceLeDiff, Nat.zero_add, reduceCtorEq, Bool.false_eq_true, Option.toList_some, Option.toList_none, List.cons_append, List.nil_append, not_true_eq_false, not_false_eq_true, Nat.sub_zero, dsX7_init, xcX7_init, y0]
    exact s204 A O _ h.it
  have s191 : ∀ A O M', IN m O0 M [245, 244, 243, 242, 241, 240, 239, 238, 237, 236, 235, 234, 233, 232, 231, 230, 229, 228, 227, 226, 225] [224] A O M' → G 191 [(0, .ref m)] [] M' 3 716 := by
    intro A O M' h
    have y0 := h.1.1
    refine e_g2 hG [(199, [0])] 20 ?_
    simp only [e_wp_s, Option.getD_some, Option.isSome_some, Option.isSome_none, xis0, xis1, xis2, xis3, xis4, e_ks, lk_k, lk_c, List.lookup_nil, gt_c, vi_i, k1_n, k1_c, k2_n, k2_c, ar_n, ar_c, pk_n, pk_c, rm_0, rm_1, rm_2, rm_3, rm_4, rm_5, rc_9, rcs, fvs, rf_s, rf_n, isI_i, isL_l, isR_r, isR_n, isR_q, ct_i, ct_l, ct_r, ct_n, ct_q, tFs, tCs, tKs, tJs, tSs, e_nf, lgs, ↓reduceIte, true_and, and_true, false_and, and_false, or_true, true_or, false_or, or_false, Nat.reduceAdd, Nat.reduceEqDiff, Nat.reduceDiv, Nat.reduceLT, Nat.reduceLeDiff, Nat.zero_add, reduceCtorEq, Bool.false_eq_true, Option.toList_some, Option.toList_none, List.cons_append, List.nil_append, not_true_eq_false, not_false_eq_true, Nat.sub_zero, dsX7_init, xcX7_init, y0, z16, y16, hmK, hmN, hmI, hmL, hmR, haI, haL, haR]
    intro q hq0
    have hmq : ¬ m = q := fun e => by rw [e, hq0] at y0; cases y0
    simp only [hmq, if_false, true_and]
    exact s199 _ _ _ (h.ar (f := 246) (by decide) hq0 rfl rfl)
  have s182 : ∀ A O M', IN m O0 M [244, 243, 242, 241, 240, 239, 238, 237, 236, 235, 234, 233, 232, 231, 230, 229, 228, 227, 226, 225] [224] A O M' → G 182 [(0, .ref m)] [] M' 4 972 := by
    intro A O M' h
    have y0 := h.1.1
    refine e_g2 hG [(191, [0])] 20 ?_
    simp only [e_wp_s, Option.getD_some, Option.isSome_some, Option.isSome_none, xis0, xis1, xis2, xis3, xis4, e_ks, lk_k, lk_c, List.lookup_nil, gt_c, vi_i, k1_n, k1_c, k2_n, k2_c, ar_n, ar_c, pk_n, pk_c, rm_0, rm_1, rm_2, rm_3, rm_4, rm_5, rc_9, rcs, fvs, rf_s, rf_n, isI_i, isL_l, isR_r, isR_n, isR_q, ct_i, ct_l, ct_r, ct_n, ct_q, tFs, tCs, tKs, tJs, tSs, e_nf, lgs, ↓reduceIte, true_and, and_true, false_and, and_false, or_true, true_or, false_or, or_false, Nat.reduceAdd, Nat.reduceEqDiff, Nat.reduceDiv, Nat.reduceLT, Nat.reduceLeDiff, Nat.zero_add, reduceCtorEq, Bool.false_eq_true, Option.toList_some, Option.toList_none, List.cons_append, List.nil_append, not_true_eq_false, not_false_eq_true, Nat.sub_zero, dsX7_init, xcX7_init, y0, z256, y256, hmK, hmN, hmI, hmL, hmR, haI, haL, haR]
    intro q hq0
    have hmq : ¬ m = q := fun e => by rw [e, hq0] at y0; cases y0
    simp only [hmq, if_false, true_and]
    exact s191 _ _ _ (h.ar (f := 245) (by decide) hq0 rfl rfl)
  have s173 : ∀ A O M', IN m O0 M [243, 242, 241, 240, 239, 238, 237, 236, 235, 234, 233, 232, 231, 230, 229, 228, 227, 226, 225] [224] A O M' → G 173 [(0, .ref m)] [] M' 5 1532 := by
    intro A O M' h
    have y0 := h.1.1
    refine e_g2 hG [(182, [0])] 20 ?_
    simp only [e_wp_s, Option.getD_some, Option.isSome_some, Option.isSome_none, xis0, xis1, xis2, xis3, xis4, e_ks, lk_k, lk_c, List.lookup_nil, gt_c, vi_i, k1_n, k1_c, k2_n, k2_c, ar_n, ar_c, pk_n, pk_c, rm_0, rm_1, rm_2, rm_3, rm_4, rm_5, rc_9, rcs, fvs, rf_s, rf_n, isI_i, isL_l, isR_r, isR_n, isR_q, ct_i, ct_l, ct_r, ct_n, ct_q, tFs, tCs, tKs, tJs, tSs, e_nf, lgs, ↓reduceIte, true_and, and_true, false_and, and_false, or_true, true_or, false_or, or_false, Nat.reduceAdd, Nat.reduceEqDiff, Nat.reduceDiv, Nat.reduceLT, Nat.reduceLeDiff, Nat.zero_add, reduceCtorEq, Bool.false_eq_true, Option.toList_some, Option.toList_none, List.cons_append, List.nil_append, not_true_eq_false, not_false_eq_true, Nat.sub_zero, dsX7_init, xcX7_init, y0, z560, y560, hmK, hmN, hmI, hmL, hmR, haI, haL, haR]
    intro q hq0
    have hmq : ¬ m = q := fun e => by rw [e, hq0] at y0; cases y0
    simp only [hmq, if_false, true_and]
    exact s182 _ _ _ (h.ar (f := 244) (by decide) hq0 rfl rfl)
  have s164 : ∀ A O M', IN m O0 M [242, 241, 240, 239, 238, 237, 236, 235, 234, 233, 232, 231, 230, 229, 228, 227, 226, 225] [224] A O M' → G 164 [(0, .ref m)] [] M' 6 2092 := by
    intro A O M' h
    have y0 := h.1.1
    refine e_g2 hG [(173, [0])] 20 ?_
    simp only [e_wp_s, Option.getD_some, Option.isSome_some, Option.isSome_none, xis0, xis1, xis2, xis3, xis4, e_ks, lk_k, lk_c, List.lookup_nil, gt_c, vi_i, k1_n, k1_c, k2_n, k2_c, ar_n, ar_c, pk_n, pk_c, rm_0, rm_1, rm_2, rm_3, rm_4, rm_5, rc_9, rcs, fvs, rf_s, rf_n, isI_i, isL_l, isR_r, isR_n, isR_q, ct_i, ct_l, ct_r, ct_n, ct_q, tFs, tCs, tKs, tJs, tSs, e_nf, lgs, ↓reduceIte, true_and, and_true, false_and, and_false, or_true, true_or, false_or, or_false, Nat.reduceAdd, Nat.reduceEqDiff, Nat.reduceDiv, Nat.reduceLT, Nat.reduceLeDiff, Nat.zero_add, reduceCtorEq, Bool.false_eq_true, Option.toList_some, Option.toList_none, List.cons_append, List.nil_append, not_true_eq_false, not_false_eq_true, Nat.sub_zero, dsX7_init, xcX7_init, y0, z560, y560, hmK, hmN, hmI, hmL, hmR, haI, haL, haR]
    intro q hq0
    have hmq : ¬ m = q := fun e => by rw [e, hq0] at y0; cases y0
    simp only [hmq, if_false, true_and]
    exact s173 _ _ _ (h.ar (f := 243) (by decide) hq0 rfl rfl)
  have s155 : ∀ A O M', IN m O0 M [241, 240, 239, 238, 237, 236, 235, 234, 233, 232, 231, 230, 229, 228, 227, 226, 225] [224] A O M' → G 155 [(0, .ref m)] [] M' 7 2652 := by
    intro A O M' h
    have y0 := h.1.1
    refine e_g2 hG [(164, [0])] 20 ?_
    simp only [e_wp_s, Option.getD_some, Option.isSome_some, Option.isSome_none, xis0, xis1, xis2, xis3, xis4, e_ks, lk_k, lk_c, List.lookup_nil, gt_c, vi_i, k1_n, k1_c, k2_n, k2_c, ar_n, ar_c, pk_n, pk_c, rm_0, rm_1, rm_2, rm_3, rm_4, rm_5, rc_9, rcs, fvs, rf_s, rf_n, isI_i, isL_l, isR_r, isR_n, isR_q, ct_i, ct_l, ct_r, ct_n, ct_q, tFs, tCs, tKs, tJs, tSs, e_nf, lgs, ↓reduceIte, true_and, and_true, false_and, and_false, or_true, true_or, false_or, or_false, Nat.reduceAdd, Nat.reduceEqDiff, Nat.reduceDiv, Nat.reduceLT, Nat.reduceLeDiff, Nat.zero_add, reduceCtorEq, Bool.false_eq_true, Option.toList_some, Option.toList_none, List.cons_append, List.nil_append, not_true_eq_false, not_false_eq_true, Nat.sub_zero, dsX7_init, xcX7_init, y0, z560, y560, hmK, hmN, hmI, hmL, hmR, haI, haL, haR]
    intro q hq0
    have hmq : ¬ m = q := fun e => by rw [e, hq0] at y0; cases y0
    simp only [hmq, if_false, true_and]
    exact s164 _ _ _ (h.ar (f := 242) (by decide) hq0 rfl rfl)
  have s146 : ∀ A O M', IN m O0 M [240, 239, 238, 237, 236, 235, 234, 233, 232, 231, 230, 229, 228, 227, 226, 225] [224] A O M' → G 146 [(0, .ref m)] [] M' 8 3212 := by
    intro A O M' h
    have y0 := h.1.1
    refine e_g2 hG [(155, [0])] 20 ?_
    simp only [e_wp_s, Option.getD_some, Option.isSome_some, Option.isSome_none, xis0, xis1, xis2, xis3, xis4, e_ks, lk_k, lk_c, List.lookup_nil, gt_c, vi_i, k1_n, k1_c, k2_n, k2_c, ar_n, ar_c, pk_n, pk_c, rm_0, rm_1, rm_2, rm_3, rm_4, rm_5, rc_9, rcs, fvs, rf_s, rf_n, isI_i, isL_l, isR_r, isR_n, isR_q, ct_i, ct_l, ct_r, ct_n, ct_q, tFs, tCs, tKs, tJs, tSs, e_nf, lgs, ↓reduceIte, true_and, and_true, false_and, and_false, or_true, true_or, false_or, or_false, Nat.reduceAdd, Nat.reduceEqDiff, Nat.reduceDiv, Nat.reduceLT, Nat.reduceLeDiff, Nat.zero_add, reduceCtorEq, Bool.false_eq_true, Option.toList_some, Option.toList_none, List.cons_append, List.nil_append, not_true_eq_false, not_false_eq_true, Nat.sub_zero, dsX7_init, xcX7_init, y0, z560, y560, hmK, hmN, hmI, hmL, hmR, haI, haL, haR]
    intro q hq0
    have hmq : ¬ m = q := fun e => by rw [e, hq0] at y0; cases y0
    simp only [hmq, if_false, true_and]
    exact s155 _ _ _ (h.ar (f := 241) (by decide) hq0 rfl rfl)
  have s137 : ∀ A O M', IN m O0 M [239, 238, 237, 236, 235, 234, 233, 232, 231, 230, 229, 228, 227, 226, 225] [224] A O M' → G 137 [(0, .ref m)] [] M' 9 3772 := by
    intro A O M' h
    have y0 := h.1.1
    refine e_g2 hG [(146, [0])] 20 ?_
    simp only [e_wp_s, Option.getD_some, Option.isSome_some, Option.isSome_none, xis0, xis1, xis2, xis3, xis4, e_ks, lk_k, lk_c, List.lookup_nil, gt_c, vi_i, k1_n, k1_c, k2_n, k2_c, ar_n, ar_c, pk_n, pk_c, rm_0, rm_1, rm_2, rm_3, rm_4, rm_5, rc_9, rcs, fvs, rf_s, rf_n, isI_i, isL_l, isR_r, isR_n, isR_q, ct_i, ct_l, ct_r, ct_n, ct_q, tFs, tCs, tKs, tJs, tSs, e_nf, lgs, ↓reduceIte, true_and, and_true, false_and, and_false, or_true, true_or, false_or, or_false, Nat.reduceAdd, Nat.reduceEqDiff, Nat.reduceDiv, Nat.reduceLT, Nat.reduceLeDiff, Nat.zero_add, reduceCtorEq, Bool.false_eq_true, Option.toList_some, Option.toList_none, List.cons_append, List.nil_append, not_true_eq_false, not_false_eq_true, Nat.sub_zero, dsX7_init, xcX7_init, y0, z560, y560, hmK, hmN, hmI, hmL, hmR, haI, haL, haR]
    intro q hq0
    have hmq : ¬ m = q := fun e => by rw [e, hq0] at y0; cases y0
    simp only [hmq, if_false, true_and]
    exact s146 _ _ _ (h.ar (f := 240) (by decide) hq0 rfl rfl)
  have s128 : ∀ A O M', IN m O0 M [238, 237, 236, 235, 234, 233, 232, 231, 230, 229, 228, 227, 226, 225] [224] A O M' → G 128 [(0, .ref m)] [] M' 10 4332 := by
    intro A O M' h
    have y0 := h.1.1
    refine e_g2 hG [(137, [0])] 20 ?_
    simp only [e_wp_s, Option.getD_some, Option.isSome_some, Option.isSome_none, xis0, xis1, xis2, xis3, xis4, e_ks, lk_k, lk_c, List.lookup_nil, gt_c, vi_i, k1_n, k1_c, k2_n, k2_c, ar_n, ar_c, pk_n, pk_c, rm_0, rm_1, rm_2, rm_3, rm_4, rm_5, rc_9, rcs, fvs, rf_s, rf_n, isI_i, isL_l, isR_r, isR_n, isR_q, ct_i, ct_l, ct_r, ct_n, ct_q, tFs, tCs, tKs, tJs, tSs, e_nf, lgs, ↓reduceIte, true_and, and_true, false_and, and_false, or_true, true_or, false_or, or_false, Nat.reduceAdd, Nat.reduceEqDiff, Nat.reduceDiv, Nat.reduceLT, Nat.reduceLeDiff, Nat.zero_add, reduceCtorEq, Bool.false_eq_true, Option.toList_some, Option.toList_none, List.cons_append, List.nil_append, not_true_eq_false, not_false_eq_true, Nat.sub_zero, dsX7_init, xcX7_init, y0, z560, y560, hmK, hmN, hmI, hmL, hmR, haI, haL, haR]
    intro q hq0
    have hmq : ¬ m = q := fun e => by rw [e, hq0] at y0; cases y0
    simp only [hmq, if_false, true_and]
    exact s137 _ _ _ (h.ar (f := 239) (by decide) hq0 rfl rfl)
  have s119 : ∀ A O M', IN m O0 M [237, 236, 235, 234, 233, 232, 231, 230, 229, 228, 227, 226, 225] [224] A O M' → G 119 [(0, .ref m)] [] M' 11 4892 := by
    intro A O M' h
    have y0 := h.1.1
    refine e_g2 hG [(128, [0])] 20 ?_
    simp only [e_wp_s, Option.getD_some, Option.isSome_some, Option.isSome_none, xis0, xis1, xis2, xis3, xis4, e_ks, lk_k, lk_c, List.lookup_nil, gt_c, vi_i, k1_n, k1_c, k2_n, k2_c, ar_n, ar_c, pk_n, pk_c, rm_0, rm_1, rm_2, rm_3, rm_4, rm_5, rc_9, rcs, fvs, rf_s, rf_n, isI_i, isL_l, isR_r, isR_n, isR_q, ct_i, ct_l, ct_r, ct_n, ct_q, tFs, tCs, tKs, tJs, tSs, e_nf, lgs, ↓reduceIte, true_and, and_true, false_and, and_false, or_true, true_or, false_or, or_false, Nat.reduceAdd, Nat.reduceEqDiff, Nat.reduceDiv, Nat.reduceLT, Nat.reduceLeDiff, Nat.zero_add, reduceCtorEq, Bool.false_eq_true, Option.toList_some, Option.toList_none, List.cons_append, List.nil_append, not_true_eq_false, not_false_eq_true, Nat.sub_zero, dsX7_init, xcX7_init, y0, z560, y560, hmK, hmN, hmI, hmL, hmR, haI, haL, haR]
    intro q hq0
    have hmq : ¬ m = q := fun e => by rw [e, hq0] at y0; cases y0
    simp only [hmq, if_false, true_and]
    exact s128 _ _ _ (h.ar (f := 238) (by decide) hq0 rfl rfl)
  have s110 : ∀ A O M', IN m O0 M [236, 235, 234, 233, 232, 231, 230, 229, 228, 227, 226, 225] [224] A O M' → G 110 [(0, .ref m)] [] M' 12 5452 := by
    intro A O M' h
    have y0 := h.1.1
    refine e_g2 hG [(119, [0])] 20 ?_
    simp only [e_wp_s, Option.getD_some, Option.isSome_some, Option.isSome_none, xis0, xis1, xis2, xis3, xis4, e_ks, lk_k, lk_c, List.lookup_nil, gt_c, vi_i, k1_n, k1_c, k2_n, k2_c, ar_n, ar_c, pk_n, pk_c, rm_0, rm_1, rm_2, rm_3, rm_4, rm_5, rc_9, rcs, fvs, rf_s, rf_n, isI_i, isL_l, isR_r, isR_n, isR_q, ct_i, ct_l, ct_r, ct_n, ct_q, tFs, tCs, tKs, tJs, tSs, e_nf, lgs, ↓reduceIte, true_and, and_true, false_and, and_false, or_true, true_or, false_or, or_false, Nat.reduceAdd, Nat.reduceEqDiff, Nat.reduceDiv, Nat.reduceLT, Nat.reduceLeDiff, Nat.zero_add, reduceCtorEq, Bool.false_eq_true, Option.toList_some, Option.toList_none, List.cons_append, List.nil_append, not_true_eq_false, not_false_eq_true, Nat.sub_zero, dsX7_init, xcX7_init, y0, z560, y560, hmK, hmN, hmI, hmL, hmR, haI, haL, haR]
    intro q hq0
    have hmq : ¬ m = q := fun e => by rw [e, hq0] at y0; cases y0
    simp only [hmq, if_false, true_and]
    exact s119 _ _ _ (h.ar (f := 237) (by decide) hq0 rfl rfl)
  have s102 : ∀ A O M', IN m O0 M [235, 234, 233, 232, 231, 230, 229, 228, 227, 226, 225] [224] A O M' → G 102 [(0, .ref m)] [] M' 13 660812 := by
    intro A O M' h
    have y0 := h.1.1
    refine e_g2 hG [(110, [0])] 20 ?_
    simp only [e_wp_s, Option.getD_some, Option.isSome_some, Option.isSome_none, xis0, xis1, xis2, xis3, xis4, e_ks, lk_k, lk_c, List.lookup_nil, gt_c, vi_i, k1_n, k1_c, k2_n, k2_c, ar_n, ar_c, pk_n, pk_c, rm_0, rm_1, rm_2, rm_3, rm_4, rm_5, rc_9, rcs, fvs, rf_s, rf_n, isI_i, isL_l, isR_r, isR_n, isR_q, ct_i, ct_l, ct_r, ct_n, ct_q, tFs, tCs, tKs, tJs, tSs, e_nf, lgs, ↓reduceIte, true_and, and_true, false_and, and_false, or_true, true_or, false_or, or_false, Nat.reduceAdd, Nat.reduceEqDiff, Nat.reduceDiv, Nat.reduceLT, Nat.reduceLeDiff, Nat.zero_add, reduceCtorEq, Bool.false_eq_true, Option.toList_some, Option.toList_none, List.cons_append, List.nil_append, not_true_eq_false, not_false_eq_true, Nat.sub_zero, dsX7_init, xcX7_init, y0, z655360, y655360, hmK, hmN, hmI, hmL, hmR, haI, haL, haR]
    intro q hq0
    have hmq : ¬ m = q := fun e => by rw [e, hq0] at y0; cases y0
    simp only [hmq, if_false, true_and]
    exact s110 _ _ _ (h.ar (f := 236) (by decide) hq0 rfl rfl)
  have s93 : ∀ A O M', IN m O0 M [234, 233, 232, 231, 230, 229, 228, 227, 226, 225] [224] A O M' → G 93 [(0, .ref m)] [] M' 14 661212 := by
    intro A O M' h
    have y0 := h.1.1
    refine e_g2 hG [(102, [0])] 20 ?_
    simp only [e_wp_s, Option.getD_some, Option.isSome_some, Option.isSome_none, xis0, xis1, xis2, xis3, xis4, e_ks, lk_k, lk_c, List.lookup_nil, gt_c, vi_i, k1_n, k1_c, k2_n, k2_c, ar_n, ar_c, pk_n, pk_c, rm_0, rm_1, rm_2, rm_3, rm_4, rm_5, rc_9, rcs, fvs, rf_s, rf_n, isI_i, isL_l, isR_r, isR_n, isR_q, ct_i, ct_l, ct_r, ct_n, ct_q, tFs, tCs, tKs, tJs, tSs, e_nf, lgs, ↓reduceIte, true_and, and_true, false_and, and_false, or_true, true_or, false_or, or_false, Nat.reduceAdd, Nat.reduceEqDiff, Nat.reduceDiv, Nat.reduceLT, Nat.reduceLeDiff, Nat.zero_add, reduceCtorEq, Bool.false_eq_true, Option.toList_some, Option.toList_none, List.cons_append, List.nil_append, not_true_eq_false, not_false_eq_true, Nat.sub_zero, dsX7_init, xcX7_init, y0, z400, y400, hmK, hmN, hmI, hmL, hmR, haI, haL, haR]
    intro q hq0
    have hmq : ¬ m = q := fun e => by rw [e, hq0] at y0; cases y0
    simp only [hmq, if_false, true_and]
    exact s102 _ _ _ (h.ar (f := 235) (by decide) hq0 rfl rfl)
  have s84 : ∀ A O M', IN m O0 M [233, 232, 231, 230, 229, 228, 227, 226, 225] [224] A O M' → G 84 [(0, .ref m)] [] M' 15 663772 := by
    intro A O M' h
    have y0 := h.1.1
    refine e_g2 hG [(93, [0])] 20 ?_
    simp only [e_wp_s, Option.getD_some, Option.isSome_some, Option.isSome_none, xis0, xis1, xis2, xis3, xis4, e_ks, lk_k, lk_c, List.lookup_nil, gt_c, vi_i, k1_n, k1_c, k2_n, k2_c, ar_n, ar_c, pk_n, pk_c, rm_0, rm_1, rm_2, rm_3, rm_4, rm_5, rc_9, rcs, fvs, rf_s, rf_n, isI_i, isL_l, isR_r, isR_n, isR_q, ct_i, ct_l, ct_r, ct_n, ct_q, tFs, tCs, tKs, tJs, tSs, e_nf, lgs, ↓reduceIte, true_and, and_true, false_and, and_false, or_true, true_or, false_or, or_false, Nat.reduceAdd, Nat.reduceEqDiff, Nat.reduceDiv, Nat.reduceLT, Nat.reduceLeDiff, Nat.zero_add, reduceCtorEq, Bool.false_eq_true, Option.toList_some, Option.toList_none, List.cons_append, List.nil_append, not_true_eq_false, not_false_eq_true, Nat.sub_zero, dsX7_init, xcX7_init, y0, z2560, y2560, hmK, hmN, hmI, hmL, hmR, haI, haL, haR]
    intro q hq0
    have hmq : ¬ m = q := fun e => by rw [e, hq0] at y0; cases y0
    simp only [hmq, if_false, true_and]
    exact s93 _ _ _ (h.ar (f := 234) (by decide) hq0 rfl rfl)
  have s75 : ∀ A O M', IN m O0 M [232, 231, 230, 229, 228, 227, 226, 225] [224] A O M' → G 75 [(0, .ref m)] [] M' 16 664172 := by
    intro A O M' h
    have y0 := h.1.1
    refine e_g2 hG [(84, [0])] 20 ?_
    simp only [e_wp_s, Option.getD_some, Option.isSome_some, Option.isSome_none, xis0, xis1, xis2, xis3, xis4, e_ks, lk_k, lk_c, List.lookup_nil, gt_c, vi_i, k1_n, k1_c, k2_n, k2_c, ar_n, ar_c, pk_n, pk_c, rm_0, rm_1, rm_2, rm_3, rm_4, rm_5, rc_9, rcs, fvs, rf_s, rf_n, isI_i, isL_l, isR_r, isR_n, isR_q, ct_i, ct_l, ct_r, ct_n, ct_q, tFs, tCs, tKs, tJs, tSs, e_nf, lgs, ↓reduceIte, true_and, and_true, false_and, and_false, or_true, true_or, false_or, or_false, Nat.reduceAdd, Nat.reduceEqDiff, Nat.reduceDiv, Nat.reduceLT, Nat.reduceLeDiff, Nat.zero_add, reduceCtorEq, Bool.false_eq_true, Option.toList_some, Option.toList_none, List.cons_append, List.nil_append, not_true_eq_false, not_false_eq_true, Nat.sub_zero, dsX7_init, xcX7_init, y0, z400, y400, hmK, hmN, hmI, hmL, hmR, haI, haL, haR]
    intro q hq0
    have hmq : ¬ m = q := fun e => by rw [e, hq0] at y0; cases y0
    simp only [hmq, if_false, true_and]
    exact s84 _ _ _ (h.ar (f := 233) (by decide) hq0 rfl rfl)
  have s66 : ∀ A O M', IN m O0 M [231, 230, 229, 228, 227, 226, 225] [224] A O M' → G 66 [(0, .ref m)] [] M' 17 666732 := by
    intro A O M' h
    have y0 := h.1.1
    refine e_g2 hG [(75, [0])] 20 ?_
    simp only [e_wp_s, Option.getD_some, Option.isSome_some, Option.isSome_none, xis0, xis1, xis2, xis3, xis4, e_ks, lk_k, lk_c, List.lookup_nil, gt_c, vi_i, k1_n, k1_c, k2_n, k2_c, ar_n, ar_c, pk_n, pk_c, rm_0, rm_1, rm_2, rm_3, rm_4, rm_5, rc_9, rcs, fvs, rf_s, rf_n, isI_i, isL_l, isR_r, isR_n, isR_q, ct_i, ct_l, ct_r, ct_n, ct_q, tFs, tCs, tKs, tJs, tSs, e_nf, lgs, ↓reduceIte, true_and, and_true, false_and, and_false, or_true, true_or, false_or, or_false, Nat.reduceAdd, Nat.reduceEqDiff, Nat.reduceDiv, Nat.reduceLT, Nat.reduceLeDiff, Nat.zero_add, reduceCtorEq, Bool.false_eq_true, Option.toList_some, Option.toList_none, List.cons_append, List.nil_append, not_true_eq_false, not_false_eq_true, Nat.sub_zero, dsX7_init, xcX7_init, y0, z2560, y2560, hmK, hmN, hmI, hmL, hmR, haI, haL, haR]
    intro q hq0
    have hmq : ¬ m = q := fun e => by rw [e, hq0] at y0; cases y0
    simp only [hmq, if_false, true_and]
    exact s75 _ _ _ (h.ar (f := 232) (by decide) hq0 rfl rfl)
  have s57 : ∀ A O M', IN m O0 M [230, 229, 228, 227, 226, 225] [224] A O M' → G 57 [(0, .ref m)] [] M' 18 669292 := by
    intro A O M' h
    have y0 := h.1.1
    refine e_g2 hG [(66, [0])] 20 ?_
    simp only [e_wp_s, Option.getD_some, Option.isSome_some, Option.isSome_none, xis0, xis1, xis2, xis3, xis4, e_ks, lk_k, lk_c, List.lookup_nil, gt_c, vi_i, k1_n, k1_c, k2_n, k2_c, ar_n, ar_c, pk_n, pk_c, rm_0, rm_1, rm_2, rm_3, rm_4, rm_5, rc_9, rcs, fvs, rf_s, rf_n, isI_i, isL_l, isR_r, isR_n, isR_q, ct_i, ct_l, ct_r, ct_n, ct_q, tFs, tCs, tKs, tJs, tSs, e_nf, lgs, ↓reduceIte, true_and, and_true, false_and, and_false, or_true, true_or, false_or, or_false, Nat.reduceAdd, Nat.reduceEqDiff, Nat.reduceDiv, Nat.reduceLT, Nat.reduceLeDiff, Nat.zero_add, reduceCtorEq, Bool.false_eq_true, Option.toList_some, Option.toList_none, List.cons_append, List.nil_append, not_true_eq_false, not_false_eq_true, Nat.sub_zero, dsX7_init, xcX7_init, y0, z2560, y2560, hmK, hmN, hmI, hmL, hmR, haI, haL, haR]
    intro q hq0
    have hmq : ¬ m = q := fun e => by rw [e, hq0] at y0; cases y0
    simp only [hmq, if_false, true_and]
    exact s66 _ _ _ (h.ar (f := 231) (by decide) hq0 rfl rfl)
  have s49 : ∀ A O M', IN m O0 M [229, 228, 227, 226, 225] [224] A O M' → G 49 [(0, .ref m)] [] M' 19 669300 := by
    intro A O M' h
    have y0 := h.1.1
    refine e_g2 hG [(57, [0])] 20 ?_
    simp only [e_wp_s, Option.getD_some, Option.isSome_some, Option.isSome_none, xis0, xis1, xis2, xis3, xis4, e_ks, lk_k, lk_c, List.lookup_nil, gt_c, vi_i, k1_n, k1_c, k2_n, k2_c, ar_n, ar_c, pk_n, pk_c, rm_0, rm_1, rm_2, rm_3, rm_4, rm_5, rc_9, rcs, fvs, rf_s, rf_n, isI_i, isL_l, isR_r, isR_n, isR_q, ct_i, ct_l, ct_r, ct_n, ct_q, tFs, tCs, tKs, tJs, tSs, e_nf, lgs, ↓reduceIte, true_and, and_true, false_and, and_false, or_true, true_or, false_or, or_false, Nat.reduceAdd, Nat.reduceEqDiff, Nat.reduceDiv, Nat.reduceLT, Nat.reduceLeDiff, Nat.zero_add, reduceCtorEq, Bool.false_eq_true, Option.toList_some, Option.toList_none, List.cons_append, List.nil_append, not_true_eq_false, not_false_eq_true, Nat.sub_zero, dsX7_init, xcX7_init, y0, z8, y8, hmK, hmN, hmI, hmL, hmR, haI, haL, haR]
    intro q hq0
    have hmq : ¬ m = q := fun e => by rw [e, hq0] at y0; cases y0
    simp only [hmq, if_false, true_and]
    exact s57 _ _ _ (h.ar (f := 230) (by decide) hq0 rfl rfl)
  have s41 : ∀ A O M', IN m O0 M [228, 227, 226, 225] [224] A O M' → G 41 [(0, .ref m)] [] M' 20 669308 := by
    intro A O M' h
    have y0 := h.1.1
    refine e_g2 hG [(49, [0])] 20 ?_
    simp only [e_wp_s, Option.getD_some, Option.isSome_some, Option.isSome_none, xis0, xis1, xis2, xis3, xis4, e_ks, lk_k, lk_c, List.lookup_nil, gt_c, vi_i, k1_n, k1_c, k2_n, k2_c, ar_n, ar_c, pk_n, pk_c, rm_0, rm_1, rm_2, rm_3, rm_4, rm_5, rc_9, rcs, fvs, rf_s, rf_n, isI_i, isL_l, isR_r, isR_n, isR_q, ct_i, ct_l, ct_r, ct_n, ct_q, tFs, tCs, tKs, tJs, tSs, e_nf, lgs, ↓reduceIte, true_and, and_true, false_and, and_false, or_true, true_or, false_or, or_false, Nat.reduceAdd, Nat.reduceEqDiff, Nat.reduceDiv, Nat.reduceLT, Nat.reduceLeDiff, Nat.zero_add, reduceCtorEq, Bool.false_eq_true, Option.toList_some, Option.toList_none, List.cons_append, List.nil_append, not_true_eq_false, not_false_eq_true, Nat.sub_zero, dsX7_init, xcX7_init, y0, z8, y8, hmK, hmN, hmI, hmL, hmR, haI, haL, haR]
    intro q hq0
    have hmq : ¬ m = q := fun e => by rw [e, hq0] at y0; cases y0
    simp only [hmq, if_false, true_and]
    exact s49 _ _ _ (h.ar (f := 229) (by decide) hq0 rfl rfl)
  have s33 : ∀ A O M', IN m O0 M [227, 226, 225] [224] A O M' → G 33 [(0, .ref m)] [] M' 21 669316 := by
    intro A O M' h
    have y0 := h.1.1
    refine e_g2 hG [(41, [0])] 20 ?_
    simp only [e_wp_s, Option.getD_some, Option.isSome_some, Option.isSome_none, xis0, xis1, xis2, xis3, xis4, e_ks, lk_k, lk_c, List.lookup_nil, gt_c, vi_i, k1_n, k1_c, k2_n, k2_c, ar_n, ar_c, pk_n, pk_c, rm_0, rm_1, rm_2, rm_3, rm_4, rm_5, rc_9, rcs, fvs, rf_s, rf_n, isI_i, isL_l, isR_r, isR_n, isR_q, ct_i, ct_l, ct_r, ct_n, ct_q, tFs, tCs, tKs, tJs, tSs, e_nf, lgs, ↓reduceIte, true_and, and_true, false_and, and_false, or_true, true_or, false_or, or_false, Nat.reduceAdd, Nat.reduceEqDiff, Nat.reduceDiv, Nat.reduceLT, Nat.reduceLeDiff, Nat.zero_add, reduceCtorEq, Bool.false_eq_true, Option.toList_some, Option.toList_none, List.cons_append, List.nil_append, not_true_eq_false, not_false_eq_true, Nat.sub_zero, dsX7_init, xcX7_init, y0, z8, y8, hmK, hmN, hmI, hmL, hmR, haI, haL, haR]
    intro q hq0
    have hmq : ¬ m = q := fun e => by rw [e, hq0] at y0; cases y0
    simp only [hmq, if_false, true_and]
    exact s41 _ _ _ (h.ar (f := 228) (by decide) hq0 rfl rfl)
  have s25 : ∀ A O M', IN m O0 M [226, 225] [224] A O M' → G 25 [(0, .ref m)] [] M' 22 669324 := by
    intro A O M' h
    have y0 := h.1.1
    refine e_g2 hG [(33, [0])] 20 ?_
    simp only [e_wp_s, Option.getD_some, Option.isSome_some, Option.isSome_none, xis0, xis1, xis2, xis3, xis4, e_ks, lk_k, lk_c, List.lookup_nil, gt_c, vi_i, k1_n, k1_c, k2_n, k2_c, ar_n, ar_c, pk_n, pk_c, rm_0, rm_1, rm_2, rm_3, rm_4, rm_5, rc_9, rcs, fvs, rf_s, rf_n, isI_i, isL_l, isR_r, isR_n, isR_q, ct_i, ct_l, ct_r, ct_n, ct_q, tFs, tCs, tKs, tJs, tSs, e_nf, lgs, ↓reduceIte, true_and, and_true, false_and, and_false, or_true, true_or, false_or, or_false, Nat.reduceAdd, Nat.reduceEqDiff, Nat.reduceDiv, Nat.reduceLT, Nat.reduceLeDiff, Nat.zero_add, reduceCtorEq, Bool.false_eq_true, Option.toList_some, Option.toList_none, List.cons_append, List.nil_append, not_true_eq_false, not_false_eq_true, Nat.sub_zero, dsX7_init, xcX7_init, y0, z8, y8, hmK, hmN, hmI, hmL, hmR, haI, haL, haR]
    intro q hq0
    have hmq : ¬ m = q := fun e => by rw [e, hq0] at y0; cases y0
    simp only [hmq, if_false, true_and]
    exact s33 _ _ _ (h.ar (f := 227) (by decide) hq0 rfl rfl)
  have s17 : ∀ A O M', IN m O0 M [225] [224] A O M' → G 17 [(0, .ref m)] [] M' 23 669388 := by
    intro A O M' h
    have y0 := h.1.1
    refine e_g2 hG [(25, [0])] 20 ?_
    simp only [e_wp_s, Option.getD_some, Option.isSome_some, Option.isSome_none, xis0, xis1, xis2, xis3, xis4, e_ks, lk_k, lk_c, List.lookup_nil, gt_c, vi_i, k1_n, k1_c, k2_n, k2_c, ar_n, ar_c, pk_n, pk_c, rm_0, rm_1, rm_2, rm_3, rm_4, rm_5, rc_9, rcs, fvs, rf_s, rf_n, isI_i, isL_l, isR_r, isR_n, isR_q, ct_i, ct_l, ct_r, ct_n, ct_q, tFs, tCs, tKs, tJs, tSs, e_nf, lgs, ↓reduceIte, true_and, and_true, false_and, and_false, or_true, true_or, false_or, or_false, Nat.reduceAdd, Nat.reduceEqDiff, Nat.reduceDiv, Nat.reduceLT, Nat.reduceLeDiff, Nat.zero_add, reduceCtorEq, Bool.false_eq_true, Option.toList_some, Option.toList_none, List.cons_append, List.nil_append, not_true_eq_false, not_false_eq_true, Nat.sub_zero, dsX7_init, xcX7_init, y0, z64, y64, hmK, hmN, hmI, hmL, hmR, haI, haL, haR]
    intro q hq0
    have hmq : ¬ m = q := fun e => by rw [e, hq0] at y0; cases y0
    simp only [hmq, if_false, true_and]
    exact s25 _ _ _ (h.ar (f := 226) (by decide) hq0 rfl rfl)
  have s9 : ∀ A O M', IN m O0 M [] [224] A O M' → G 9 [(0, .ref m)] [] M' 24 669396 := by
    intro A O M' h
    have y0 := h.1.1
    refine e_g2 hG [(17, [0])] 20 ?_
    simp only [e_wp_s, Option.getD_some, Option.isSome_some, Option.isSome_none, xis0, xis1, xis2, xis3, xis4, e_ks, lk_k, lk_c, List.lookup_nil, gt_c, vi_i, k1_n, k1_c, k2_n, k2_c, ar_n, ar_c, pk_n, pk_c, rm_0, rm_1, rm_2, rm_3, rm_4, rm_5, rc_9, rcs, fvs, rf_s, rf_n, isI_i, isL_l, isR_r, isR_n, isR_q, ct_i, ct_l, ct_r, ct_n, ct_q, tFs, tCs, tKs, tJs, tSs, e_nf, lgs, ↓reduceIte, true_and, and_true, false_and, and_false, or_true, true_or, false_or, or_false, Nat.reduceAdd, Nat.reduceEqDiff, Nat.reduceDiv, Nat.reduceLT, Nat.reduceLeDiff, Nat.zero_add, reduceCtorEq, Bool.false_eq_true, Option.toList_some, Option.toList_none, List.cons_append, List.nil_append, not_true_eq_false, not_false_eq_true, Nat.sub_zero, dsX7_init, xcX7_init, y0, z8, y8, hmK, hmN, hmI, hmL, hmR, haI, haL, haR]
    intro q hq0
    have hmq : ¬ m = q := fun e => by rw [e, hq0] at y0; cases y0
    simp only [hmq, if_false, true_and]
    exact s17 _ _ _ (h.ar (f := 225) (by decide) hq0 rfl rfl)
  have s4 : ∀ A O M', IN m O0 M [] [] A O M' → G 4 [(0, .ref m)] [] M' 24 669396 := by
    intro A O M' h
    have y0 := h.1.1
    refine e_g2 hG [(9, [0])] 20 ?_
    simp only [e_wp_s, Option.getD_some, Option.isSome_some, Option.isSome_none, xis0, xis1, xis2, xis3, xis4, e_ks, lk_k, lk_c, List.lookup_nil, gt_c, vi_i, k1_n, k1_c, k2_n, k2_c, ar_n, ar_c, pk_n, pk_c, rm_0, rm_1, rm_2, rm_3, rm_4, rm_5, rc_9, rcs, fvs, rf_s, rf_n, isI_i, isL_l, isR_r, isR_n, isR_q, ct_i, ct_l, ct_r, ct_n, ct_q, tFs, tCs, tKs, tJs, tSs, e_nf, lgs, ↓reduceIte, true_and, and_true, false_and, and_false, or_true, true_or, false_or, or_false, Nat.reduceAdd, Nat.reduceEqDiff, Nat.reduceDiv, Nat.reduceLT, Nat.reduceLeDiff, Nat.zero_add, reduceCtorEq, Bool.false_eq_true, Option.toList_some, Option.toList_none, List.cons_append, List.nil_append, not_true_eq_false, not_false_eq_true, Nat.sub_zero, dsX7_init, xcX7_init, y0]
    exact s9 A O _ h.it
  refine e_g2 hG [(4, [0])] 20 ?_
  simp only [e_wp_s, Option.getD_some, Option.isSome_some, Option.isSome_none, xis0, xis1, xis2, xis3, xis4, e_ks, lk_k, lk_c, List.lookup_nil, gt_c, vi_i, k1_n, k1_c, k2_n, k2_c, ar_n, ar_c, pk_n, pk_c, rm_0, rm_1, rm_2, rm_3, rm_4, rm_5, rc_9, rcs, fvs, rf_s, rf_n, isI_i, isL_l, isR_r, isR_n, isR_q, ct_i, ct_l, ct_r, ct_n, ct_q, tFs, tCs, tKs, tJs, tSs, e_nf, lgs, ↓reduceIte, true_and, and_true, false_and, and_false, or_true, true_or, false_or, or_false, Nat.reduceAdd, Nat.reduceEqDiff, Nat.reduceDiv, Nat.reduceLT, Nat.reduceLeDiff, Nat.zero_add, reduceCtorEq, Bool.false_eq_true, Option.toList_some, Option.toList_none, List.cons_append, List.nil_append, not_true_eq_false, not_false_eq_true, Nat.sub_zero, dsX7_init, xcX7_init, hb, ↓obj_e]
  exact s4 (fun _ => 0) O0 M ⟨⟨hb, ho⟩, fun _ h => (by cases h), fun _ h => (by cases h), Fr.rf⟩
