/-! the reference: a series of it; points added -/
def dvf (f : Nat) : Nat := if f == 226 then 8 else if f == 231 || f == 232 || f == 234 then 320 else if f == 233 || f == 235 then 50 else if f == 236 then 81920 else if Nat.ble 237 f && Nat.ble f 244 then 70 else if f == 245 || f == 246 || f == 251 || f == 252 then 0 else 1
def MI (A : Nat → Nat) (s : Nat) (M U : HM) : Prop := ∀ f, isA f = true → 0 < dvf f → ∀ i, i / dvf f ≠ s → aI U (A f) i = aI M (A f) i ∧ aL U (A f) i = aL M (A f) i
theorem MI.rf {A : Nat → Nat} {s : Nat} {M : HM} : MI A s M M := fun _ _ _ _ _ => ⟨rfl, rfl⟩
theorem MI.tr {A : Nat → Nat} {s : Nat} {M U V : HM} (h : MI A s M U) (g : MI A s U V) : MI A s M V := fun f hf hd i hi => ⟨(g f hf hd i hi).1.trans (h f hf hd i hi).1, (g f hf hd i hi).2.trans (h f hf hd i hi).2⟩
theorem MI.tI {O : GH} {A : Nat → Nat} {s m f i : Nat} {v : Int32} {M U : HM} (h : MI A s M U) (hO : GO O A m) (hf : isA f = true) (hi : i / dvf f = s ∨ dvf f = 0) : MI A s M (tI U (A f) i v) := h.tr (fun g hg hd j hj => by
  refine ⟨?_, by simp only [haL]⟩
  simp only [haI]
  rw [if_neg]
  rintro ⟨e1, e2⟩
  by_cases c : g = f
  · subst c; subst e2
    exact hi.elim (fun q => hj q) (fun q => by omega)
  · exact hO.ne hg hf c e1)
theorem MI.tL {O : GH} {A : Nat → Nat} {s m f i : Nat} {v : Int64} {M U : HM} (h : MI A s M U) (hO : GO O A m) (hf : isA f = true) (hi : i / dvf f = s ∨ dvf f = 0) : MI A s M (tL U (A f) i v) := h.tr (fun g hg hd j hj => by
  refine ⟨by simp only [haI], ?_⟩
  simp only [haL]
  rw [if_neg]
  rintro ⟨e1, e2⟩
  by_cases c : g = f
  · subst c; subst e2
    exact hi.elim (fun q => hj q) (fun q => by omega)
  · exact hO.ne hg hf c e1)
theorem MI.sI {A : Nat → Nat} {s f a : Nat} {v : Int32} {M U : HM} (h : MI A s M U) : MI A s M (sI U f a v) := h.tr (fun g hg hd j hj => ⟨by simp only [haI], by simp only [haL]⟩)
theorem MI.of {O : GH} {A : Nat → Nat} {s m : Nat} {fs : List Nat} {M U : HM} (h : MC O A m fs M U) (hf : ∀ f, f ∈ fs → isA f = true → dvf f = 0) : MI A s M U := fun g hg hd i _ => by
  have hn : g ∉ fs := fun q => by have := hf g q hg; omega
  obtain ⟨h1, h2⟩ := h.2.2.2.2.1 g hg hn
  rw [h1, h2]; exact ⟨rfl, rfl⟩
theorem dq (n s k : Nat) (h : k < n) : (n * s + k) / n = s := by
  rw [Nat.mul_add_div (by omega), Nat.div_eq_of_lt h, Nat.add_zero]
def MSer (A : Nat → Nat) (U : HM) (s : Nat) (S : SER) : Prop := mH A U s S.1 S.2.1 ∧ mP A U s (mpts S.2.2.2.1) ∧ mB A U s S.2.2.2.1 ∧ mT A U s S.2.2.2.2 ∧ mSp A U s S.2.2.1
theorem mH.mi {A : Nat → Nat} {M U : HM} {s s' : Nat} {kd : Int32} {lab : Nat → Int32} (h : mH A M s' kd lab) (hI : MI A s M U) (hs : s' ≠ s) : mH A U s' kd lab := by
  refine ⟨?_, fun k hk => ?_⟩
  · rw [(hI 225 rfl (by decide) s' (by rw [show dvf 225 = 1 from rfl, Nat.div_one]; exact hs)).1]; exact h.1
  · rw [(hI 226 rfl (by decide) _ (by rw [show dvf 226 = 8 from rfl, dq 8 s' k hk]; exact hs)).1]; exact h.2 k hk
theorem mP.mi {A : Nat → Nat} {M U : HM} {s s' : Nat} {l : List PT} (h : mP A M s' l) (hI : MI A s M U) (hs : s' ≠ s) : mP A U s' l := by
  obtain ⟨h1, h2, h3⟩ := h
  refine ⟨?_, h2, ?_⟩
  · rw [(hI 227 rfl (by decide) s' (by rw [show dvf 227 = 1 from rfl, Nat.div_one]; exact hs)).1]; exact h1
  · refine (rdf_ext _ _ _ (fun i hi => ?_)).trans h3
    rw [(hI 231 rfl (by decide) _ (by rw [show dvf 231 = 320 from rfl, dq 320 s' i (by omega)]; exact hs)).1, (hI 234 rfl (by decide) _ (by rw [show dvf 234 = 320 from rfl, dq 320 s' i (by omega)]; exact hs)).2]
theorem mB.mi {A : Nat → Nat} {M U : HM} {s s' : Nat} {bk : List BLK} (h : mB A M s' bk) (hI : MI A s M U) (hs : s' ≠ s) : mB A U s' bk := by
  obtain ⟨h1, h2, h3, h4⟩ := h
  refine ⟨?_, h2, fun b x hx => ?_, h4⟩
  · rw [(hI 228 rfl (by decide) s' (by rw [show dvf 228 = 1 from rfl, Nat.div_one]; exact hs)).1]; exact h1
  · have hb := (List.getElem?_eq_some_iff.mp hx).1
    obtain ⟨g1, g2⟩ := h3 b x hx
    refine ⟨?_, fun k hk => ?_⟩
    · rw [(hI 232 rfl (by decide) _ (by rw [show dvf 232 = 320 from rfl, dq 320 s' b (by omega)]; exact hs)).1]; exact g1
    · rw [(hI 236 rfl (by decide) _ (by
        rw [show dvf 236 = 81920 from rfl, show 256 * (320 * s' + b) + k = 81920 * s' + (256 * b + k) by omega, dq 81920 s' _ (by omega)]
        exact hs)).1]
      exact g2 k hk
theorem mT.mi {A : Nat → Nat} {M U : HM} {s s' : Nat} {l : List PT} (h : mT A M s' l) (hI : MI A s M U) (hs : s' ≠ s) : mT A U s' l := by
  obtain ⟨h1, h2, h3⟩ := h
  refine ⟨?_, h2, ?_⟩
  · rw [(hI 229 rfl (by decide) s' (by rw [show dvf 229 = 1 from rfl, Nat.div_one]; exact hs)).1]; exact h1
  · refine (rdf_ext _ _ _ (fun i hi => ?_)).trans h3
    rw [(hI 233 rfl (by decide) _ (by rw [show dvf 233 = 50 from rfl, dq 50 s' i (by omega)]; exact hs)).1, (hI 235 rfl (by decide) _ (by rw [show dvf 235 = 50 from rfl, dq 50 s' i (by omega)]; exact hs)).2]
theorem mSp.mi {A : Nat → Nat} {M U : HM} {s s' : Nat} {l : List SPN} (h : mSp A M s' l) (hI : MI A s M U) (hs : s' ≠ s) : mSp A U s' l := by
  obtain ⟨h1, h2, h3⟩ := h
  refine ⟨?_, h2, ?_⟩
  · rw [(hI 230 rfl (by decide) s' (by rw [show dvf 230 = 1 from rfl, Nat.div_one]; exact hs)).1]; exact h1
  · refine (rdf_ext _ _ _ (fun i hi => ?_)).trans h3
    have e : (70 * s' + i) / 70 ≠ s := by rw [dq 70 s' i (by omega)]; exact hs
    unfold spv
    rw [(hI 237 rfl (by decide) _ e).1, (hI 238 rfl (by decide) _ e).1, (hI 239 rfl (by decide) _ e).1, (hI 240 rfl (by decide) _ e).2, (hI 241 rfl (by decide) _ e).2, (hI 242 rfl (by decide) _ e).2, (hI 243 rfl (by decide) _ e).2, (hI 244 rfl (by decide) _ e).2]
theorem MSer.mi {A : Nat → Nat} {M U : HM} {s s' : Nat} {S : SER} (h : MSer A M s' S) (hI : MI A s M U) (hs : s' ≠ s) : MSer A U s' S := ⟨h.1.mi hI hs, h.2.1.mi hI hs, h.2.2.1.mi hI hs, h.2.2.2.1.mi hI hs, h.2.2.2.2.mi hI hs⟩
/-- pieces that other arrays leave -/
theorem MC.mH {O : GH} {A : Nat → Nat} {m s : Nat} {fs : List Nat} {M U : HM} {kd : Int32} {lab : Nat → Int32} (h : MC O A m fs M U) (hn : 225 ∉ fs ∧ 226 ∉ fs) (g : mH A M s kd lab) : mH A U s kd lab := by
  unfold _root_.Jvm.Pilot.CNumberRiverLaw_law_r3969_a33f06.mH
  rw [(h.2.2.2.2.1 225 rfl hn.1).1, (h.2.2.2.2.1 226 rfl hn.2).1]; exact g
theorem MC.mP {O : GH} {A : Nat → Nat} {m s : Nat} {fs : List Nat} {M U : HM} {l : List PT} (h : MC O A m fs M U) (hn : 227 ∉ fs ∧ 231 ∉ fs ∧ 234 ∉ fs) (g : mP A M s l) : mP A U s l := by
  unfold _root_.Jvm.Pilot.CNumberRiverLaw_law_r3969_a33f06.mP
  rw [(h.2.2.2.2.1 227 rfl hn.1).1, (h.2.2.2.2.1 231 rfl hn.2.1).1, (h.2.2.2.2.1 234 rfl hn.2.2).2]; exact g
theorem MC.mB {O : GH} {A : Nat → Nat} {m s : Nat} {fs : List Nat} {M U : HM} {l : List BLK} (h : MC O A m fs M U) (hn : 228 ∉ fs ∧ 232 ∉ fs ∧ 236 ∉ fs) (g : mB A M s l) : mB A U s l := by
  unfold _root_.Jvm.Pilot.CNumberRiverLaw_law_r3969_a33f06.mB
  rw [(h.2.2.2.2.1 228 rfl hn.1).1, (h.2.2.2.2.1 232 rfl hn.2.1).1, (h.2.2.2.2.1 236 rfl hn.2.2).1]; exact g
theorem MC.mT {O : GH} {A : Nat → Nat} {m s : Nat} {fs : List Nat} {M U : HM} {l : List PT} (h : MC O A m fs M U) (hn : 229 ∉ fs ∧ 233 ∉ fs ∧ 235 ∉ fs) (g : mT A M s l) : mT A U s l := by
  unfold _root_.Jvm.Pilot.CNumberRiverLaw_law_r3969_a33f06.mT
  rw [(h.2.2.2.2.1 229 rfl hn.1).1, (h.2.2.2.2.1 233 rfl hn.2.1).1, (h.2.2.2.2.1 235 rfl hn.2.2).2]; exact g
theorem MC.mSp {O : GH} {A : Nat → Nat} {m s : Nat} {fs : List Nat} {M U : HM} {l : List SPN} (h : MC O A m fs M U) (hn : ∀ f, 237 ≤ f → f ≤ 244 → f ∉ fs) (h0 : 230 ∉ fs) (g : mSp A M s l) : mSp A U s l := by
  obtain ⟨g1, g2, g3⟩ := g
  refine ⟨by rw [(h.2.2.2.2.1 230 rfl h0).1]; exact g1, g2, ?_⟩
  have : spv A U = spv A M := by
    funext i
    unfold spv
    rw [(h.2.2.2.2.1 237 rfl (hn _ (by decide) (by decide))).1, (h.2.2.2.2.1 238 rfl (hn _ (by decide) (by decide))).1, (h.2.2.2.2.1 239 rfl (hn _ (by decide) (by decide))).1, (h.2.2.2.2.1 240 rfl (hn _ (by decide) (by decide))).2, (h.2.2.2.2.1 241 rfl (hn _ (by decide) (by decide))).2, (h.2.2.2.2.1 242 rfl (hn _ (by decide) (by decide))).2, (h.2.2.2.2.1 243 rfl (hn _ (by decide) (by decide))).2, (h.2.2.2.2.1 244 rfl (hn _ (by decide) (by decide))).2]
  rw [this]; exact g3
def MRp (A : Nat → Nat) (O : GH) (M : HM) (m : Nat) (L : List SER) (z : Nat × Nat × Nat) : Prop := MS A M m ∧ GO O A m ∧ (mI M 224 m = nI L.length ∧ L.length ≤ 8) ∧ (∀ s S, L[s]? = some S → MSer A M s S) ∧ (∀ s, L.length ≤ s → s < 8 → (∀ k, k < 8 → aI M (A 226) (8 * s + k) = 0) ∧ aI M (A 227) s = 0 ∧ aI M (A 228) s = 0 ∧ aI M (A 229) s = 0 ∧ aI M (A 230) s = 0) ∧ mI M 248 m = nI z.1 ∧ mI M 249 m = nI z.2.1 ∧ mI M 250 m = nI z.2.2
theorem MRp.mut {A : Nat → Nat} {O : GH} {M U : HM} {m s : Nat} {L : List SER} {z : Nat × Nat × Nat} {S S' : SER} {fs : List Nat} (h : MRp A O M m L z) (hs : L[s]? = some S) (hC : MC O A m fs M U) (hI : MI A s M U) (hfs : 224 ∉ fs ∧ 248 ∉ fs ∧ 249 ∉ fs ∧ 250 ∉ fs) (hS : MSer A U s S') : MRp A O U m (L.set s S') z := by
  obtain ⟨h1, h2, ⟨h3, h3'⟩, h4, h5, h6, h7, h8⟩ := h
  have hsl := (List.getElem?_eq_some_iff.mp hs).1
  refine ⟨hC.ms h1, h2, ⟨?_, by rw [List.length_set]; exact h3'⟩, fun s' T hT => ?_, fun s' hs' h8' => ?_, ?_, ?_, ?_⟩
  · rw [List.length_set, hC.2.2.2.2.2 224 hfs.1]; exact h3
  · rw [List.getElem?_set] at hT
    by_cases c : s = s'
    · rw [if_pos c, if_pos hsl] at hT
      cases hT
      rw [← c]; exact hS
    · rw [if_neg c] at hT
      exact (h4 s' T hT).mi hI (fun e => c e.symm)
  · rw [List.length_set] at hs'
    have hne : s' ≠ s := fun e => by omega
    obtain ⟨g1, g2, g3, g4, g5⟩ := h5 s' hs' h8'
    refine ⟨fun k hk => ?_, ?_, ?_, ?_, ?_⟩
    · rw [(hI 226 rfl (by decide) _ (by rw [show dvf 226 = 8 from rfl, dq 8 s' k hk]; exact hne)).1]; exact g1 k hk
    · rw [(hI 227 rfl (by decide) s' (by rw [show dvf 227 = 1 from rfl, Nat.div_one]; exact hne)).1]; exact g2
    · rw [(hI 228 rfl (by decide) s' (by rw [show dvf 228 = 1 from rfl, Nat.div_one]; exact hne)).1]; exact g3
    · rw [(hI 229 rfl (by decide) s' (by rw [show dvf 229 = 1 from rfl, Nat.div_one]; exact hne)).1]; exact g4
    · rw [(hI 230 rfl (by decide) s' (by rw [show dvf 230 = 1 from rfl, Nat.div_one]; exact hne)).1]; exact g5
  · rw [hC.2.2.2.2.2 248 hfs.2.1]; exact h6
  · rw [hC.2.2.2.2.2 249 hfs.2.2.1]; exact h7
  · rw [hC.2.2.2.2.2 250 hfs.2.2.2]; exact h8
theorem wfb_ap {bk : List BLK} (p : PT) (h : wfb bk) : wfb (apM bk p) := by
  by_cases ho : opb bk = true
  · rw [apM_open p ho]
    intro x hx
    rcases List.mem_append.mp hx with hx | hx
    · exact h x hx
    · rw [List.mem_singleton.mp hx]; exact ⟨by simp, by simp, fun _ _ => rfl⟩
  · rcases nil_snoc bk with rfl | ⟨l, y, rfl⟩
    · exact absurd rfl ho
    · rw [apM_more p ho]
      intro x hx
      rcases List.mem_append.mp hx with hx | hx
      · exact h x (List.mem_append_left _ hx)
      · rw [List.mem_singleton.mp hx]
        have hy := h y (by simp)
        rw [opb_snoc] at ho
        have ho : y.1.length < 16 ∧ tcnt y.2 226 = 0 := by simpa using ho
        refine ⟨by simp, ?_, hy.2.2⟩
        show (y.1 ++ [p]).length ≤ 16
        rw [List.length_append]; simp only [List.length_cons, List.length_nil]; omega
def csX7_addMain : CS := (cs_c 0 111 3 7 sp_X7_spot (cs_c 0 118 4 7 sp_X7_mask cs_0))
theorem csoX7_addMain : ∀ op x na cl sp, csX7_addMain op x = some (na, cl, sp) → CallOK 7 2 45 op x na cl sp := (cs_c_ok (caX7_addMain_111 okX7_spot) (cs_c_ok (caX7_addMain_118 okX7_mask) cs_0_ok))
theorem xcX7_addMain : (∀ (Q : QT) (G : GT) (pc : Nat) (L : LV) (a0 a1 a2 : Value) (r : List Value) (M : HM) (k n : Nat), ex_i 7 7 0 false csX7_addMain Q G (.invokevirtual 111) pc L (a2 :: a1 :: a0 :: r) M k n = (e_rm r ∧ e_rc M 7 [a0, a1, a2] ∧ sp_X7_spot [a0, a1, a2] M k n (fun v M' k' n' => G (pc + 3) L (v.toList ++ r) M' k' n'))) ∧ (∀ (Q : QT) (G : GT) (pc : Nat) (L : LV) (a0 a1 a2 a3 : Value) (r : List Value) (M : HM) (k n : Nat), ex_i 7 7 0 false csX7_addMain Q G (.invokevirtual 118) pc L (a3 :: a2 :: a1 :: a0 :: r) M k n = (e_rm r ∧ e_rc M 7 [a0, a1, a2, a3] ∧ sp_X7_mask [a0, a1, a2, a3] M k n (fun v M' k' n' => G (pc + 3) L (v.toList ++ r) M' k' n'))) := ⟨(fun _ _ _ _ _ _ _ _ _ _ _ => xv0_3 rfl), (fun _ _ _ _ _ _ _ _ _ _ _ _ => xv0_4 rfl)⟩
def sp_X7_addMain : SP := fun as M k n Q => match as with
  | [.ref m, .int i, .int t, .long v, .int fr] => ∃ O A s l bk, MS A M m ∧ GO O A m ∧ s < 8 ∧ mP A M s l ∧ l.length < 300 ∧ mB A M s bk ∧ i = nI s ∧ fr = (if opb bk then 1 else 0) ∧ (opb bk = true → bk.length < 300) ∧ ∀ U, MC O A m [227, 228, 231, 232, 234, 236] M U → MI A s M U → mP A U s (l ++ [(t, v)]) → mB A U s (apM bk (t, v)) → (∀ i, i ≠ 320 * s + l.length → aI U (A 231) i = aI M (A 231) i ∧ aL U (A 234) i = aL M (A 234) i) → Q none U k n
  | _ => False
theorem okX7_addMain : OkX7_addMain sp_X7_addMain := by
  refine inX7_addMain csoX7_addMain ?_
  intro as M k n Q hsp
  unfold sp_X7_addMain at hsp
  split at hsp
  rotate_left
  · exact hsp.elim
  rename_i m i t v fr
  obtain ⟨O, A, s, l, bk, hM, hO, hs, hP, hl, hB, rfl, rfl, hop, hq⟩ := hsp
  have n227_228 : ¬ A 227 = A 228 := hO.ne (f := 227) (g := 228) rfl rfl (by decide)
  have n227_231 : ¬ A 227 = A 231 := hO.ne (f := 227) (g := 231) rfl rfl (by decide)
  have n227_232 : ¬ A 227 = A 232 := hO.ne (f := 227) (g := 232) rfl rfl (by decide)
  have n227_234 : ¬ A 227 = A 234 := hO.ne (f := 227) (g := 234) rfl rfl (by decide)
  have n227_236 : ¬ A 227 = A 236 := hO.ne (f := 227) (g := 236) rfl rfl (by decide)
  have n228_227 : ¬ A 228 = A 227 := hO.ne (f := 228) (g := 227) rfl rfl (by decide)
  have n228_231 : ¬ A 228 = A 231 := hO.ne (f := 228) (g := 231) rfl rfl (by decide)
  have n228_232 : ¬ A 228 = A 232 := hO.ne (f := 228) (g := 232) rfl rfl (by decide)
  have n228_234 : ¬ A 228 = A 234 := hO.ne (f := 228) (g := 234) rfl rfl (by decide)
  have n228_236 : ¬ A 228 = A 236 := hO.ne (f := 228) (g := 236) rfl rfl (by decide)
  have n231_227 : ¬ A 231 = A 227 := hO.ne (f := 231) (g := 227) rfl rfl (by decide)
  have n231_228 : ¬ A 231 = A 228 := hO.ne (f := 231) (g := 228) rfl rfl (by decide)
  have n231_232 : ¬ A 231 = A 232 := hO.ne (f := 231) (g := 232) rfl rfl (by decide)
  have n231_234 : ¬ A 231 = A 234 := hO.ne (f := 231) (g := 234) rfl rfl (by decide)
  have n231_236 : ¬ A 231 = A 236 := hO.ne (f := 231) (g := 236) rfl rfl (by decide)
  have n232_227 : ¬ A 232 = A 227 := hO.ne (f := 232) (g := 227) rfl rfl (by decide)
  have n232_228 : ¬ A 232 = A 228 := hO.ne (f := 232) (g := 228) rfl rfl (by decide)
  have n232_231 : ¬ A 232 = A 231 := hO.ne (f := 232) (g := 231) rfl rfl (by decide)
  have n232_234 : ¬ A 232 = A 234 := hO.ne (f := 232) (g := 234) rfl rfl (by decide)
  have n232_236 : ¬ A 232 = A 236 := hO.ne (f := 232) (g := 236) rfl rfl (by decide)
  have n234_227 : ¬ A 234 = A 227 := hO.ne (f := 234) (g := 227) rfl rfl (by decide)
  have n234_228 : ¬ A 234 = A 228 := hO.ne (f := 234) (g := 228) rfl rfl (by decide)
  have n234_231 : ¬ A 234 = A 231 := hO.ne (f := 234) (g := 231) rfl rfl (by decide)
  have n234_232 : ¬ A 234 = A 232 := hO.ne (f := 234) (g := 232) rfl rfl (by decide)
  have n234_236 : ¬ A 234 = A 236 := hO.ne (f := 234) (g := 236) rfl rfl (by decide)
  have n236_227 : ¬ A 236 = A 227 := hO.ne (f := 236) (g := 227) rfl rfl (by decide)
  have n236_228 : ¬ A 236 = A 228 := hO.ne (f := 236) (g := 228) rfl rfl (by decide)
  have n236_231 : ¬ A 236 = A 231 := hO.ne (f := 236) (g := 231) rfl rfl (by decide)
  have n236_232 : ¬ A 236 = A 232 := hO.ne (f := 236) (g := 232) rfl rfl (by decide)
  have n236_234 : ¬ A 236 = A 234 := hO.ne (f := 236) (g := 234) rfl rfl (by decide)
  have sc : (nI s).toNatClampNeg = s := nI_clamp (by omega)
  have sv : vp_in (nI s) 8 := vp_in_nI hs (by decide)
  have pl := hP.1
  have bl := hB.1
  have h300 := hB.2.1
  refine ⟨0, 0, Nat.zero_le _, Nat.zero_le _, Nat.le_of_ble_eq_true rfl, fun G hG => ?_⟩
  have tail : ∀ c bk0 y f U, bk0.length = c → c < 300 → MC O A m [227, 228, 231, 232, 234, 236] M U → MI A s M U → aI U (A 228) s = nI (c + 1) → aI U (A 232) (320 * s + c) = nI y.length → (∀ b x, bk0[b]? = some x → aI U (A 232) (320 * s + b) = nI x.1.length ∧ ∀ k, k < 256 → aI U (A 236) (256 * (320 * s + b) + k) = x.2 k) → (∀ k, k < 256 → aI U (A 236) (256 * (320 * s + c) + k) = f k) → aI U (A 227) = aI M (A 227) → aI U (A 231) = aI M (A 231) → aL U (A 234) = aL M (A 234) → apM bk (t, v) = bk0 ++ [(y ++ [(t, v)], f)] → G 68 [(0, .ref m), (1, .int (nI s)), (2, .int t), (3, .long v)] [] U 0 0 := by
    intro c bk0 y f U hc hc3 hC hI u228 u232 uall u236 u227 u231 u234 hap
    have hMU := hC.ms hM
    have g0 := hMU.1
    obtain ⟨r227, k227, l227⟩ : mR U 227 m = some (A 227) ∧ mK U (A 227) = 9 ∧ mN U (A 227) = 8 := hMU.2 227 rfl
    obtain ⟨r228, k228, l228⟩ : mR U 228 m = some (A 228) ∧ mK U (A 228) = 9 ∧ mN U (A 228) = 8 := hMU.2 228 rfl
    obtain ⟨r231, k231, l231⟩ : mR U 231 m = some (A 231) ∧ mK U (A 231) = 9 ∧ mN U (A 231) = 2560 := hMU.2 231 rfl
    obtain ⟨r232, k232, l232⟩ : mR U 232 m = some (A 232) ∧ mK U (A 232) = 9 ∧ mN U (A 232) = 2560 := hMU.2 232 rfl
    obtain ⟨r234, k234, l234⟩ : mR U 234 m = some (A 234) ∧ mK U (A 234) = 10 ∧ mN U (A 234) = 2560 := hMU.2 234 rfl
    have pl' : aI U (A 227) s = nI l.length := by rw [u227]; exact pl
    have i1 : (nI (320 * s + l.length)).toNatClampNeg = 320 * s + l.length := nI_clamp (by omega)
    have i2 : vp_in (nI (320 * s + l.length)) 2560 := vp_in_nI (by omega) (by decide)
    have i3 : nI (c + 1) - 1 = nI c := nI_pred c
    have i4 : (nI (320 * s + c)).toNatClampNeg = 320 * s + c := nI_clamp (by omega)
    have i5 : vp_in (nI (320 * s + c)) 2560 := vp_in_nI (by omega) (by decide)
    refine e_g2 hG [] 80 ?_
    simp only [e_wp_s, Option.getD_some, Option.isSome_some, Option.isSome_none, xis0, xis1, xis2, xis3, xis4, e_ks, lk_k, lk_c, List.lookup_nil, gt_c, vi_i, k1_n, k1_c, k2_n, k2_c, ar_n, ar_c, pk_n, pk_c, rm_0, rm_1, rm_2, rm_3, rm_4, rm_5, rc_9, rcs, fvs, rf_s, rf_n, isI_i, isL_l, isR_r, isR_n, isR_q, ct_i, ct_l, ct_r, ct_n, ct_q, tFs, tCs, tKs, tJs, tSs, e_nf, lgs, ↓reduceIte, true_and, and_true, false_and, and_false, or_true, true_or, false_or, or_false, Nat.reduceAdd, Nat.reduceEqDiff, Nat.reduceDiv, Nat.reduceLT, Nat.reduceLeDiff, Nat.zero_add, reduceCtorEq, Bool.false_eq_true, Option.toList_some, Option.toList_none, List.cons_append, List.nil_append, not_true_eq_false, not_false_eq_true, Nat.sub_zero, dsX7_addMain, jsX7_addMain, xcX7_addMain, g0, r227, k227, l227, r228, k228, l228, r231, k231, l231, r232, k232, l232, r234, k234, l234, n227_228, n227_231, n227_232, n227_234, n228_227, n228_231, n228_232, n228_234, n231_227, n231_228, n231_232, n231_234, n232_227, n232_228, n232_231, n232_234, n234_227, n234_228, n234_231, n234_232, sc, sv, pl', u228, u232, i1, i2, i3, i4, i5, ↓sp_X7_spot, spt, nI_1, hmK, hmN, hmI, hmL, hmR, haI, haL, haR, and_self]
    refine hq _ ?_ ?_ ?_ ?_ ?_
    · exact MC.tI (MC.tI (MC.tL (MC.tI hC hO (by decide) rfl) hO (by decide) rfl) hO (by decide) rfl) hO (by decide) rfl
    · exact MI.tI (MI.tI (MI.tL (MI.tI hI hO rfl (Or.inl (dq 320 s _ (by omega)))) hO rfl (Or.inl (dq 320 s _ (by omega)))) hO rfl (Or.inl (Nat.div_one s))) hO rfl (Or.inl (dq 320 s _ (by omega)))
    · refine ⟨?_, by rw [List.length_append]; exact hl, ?_⟩
      · simp only [haI, n227_232, false_and, if_false, and_self, if_true, List.length_append]; rfl
      · rw [List.length_append]
        show rdf _ _ (l.length + 1) = _
        rw [rdf_snoc]
        congr 1
        · refine (rdf_ext _ _ _ (fun j hj => ?_)).trans hP.2.2
          simp only [haI, haL, n231_232, n231_227, false_and, if_false, true_and]
          rw [if_neg (show ¬ 320 * s + j = 320 * s + l.length by omega), if_neg (show ¬ 320 * s + j = 320 * s + l.length by omega), u231, u234]
        · simp only [haI, haL, n231_232, n231_227, false_and, if_false, and_self, if_true]
    · rw [hap]
      refine ⟨?_, ?_, fun b x hx => ?_, ?_⟩
      · simp only [haI, n228_232, n228_227, n228_231, false_and, if_false, haL]
        rw [u228, List.length_append, hc]; rfl
      · rw [List.length_append, hc]; exact hc3
      · simp only [haI, haL, n232_227, n232_231, n236_232, n236_227, n236_231, false_and, if_false, true_and]
        by_cases cb : b < c
        · rw [List.getElem?_append_left (by omega)] at hx
          rw [if_neg (show ¬ 320 * s + b = 320 * s + c by omega)]
          exact uall b x hx
        · rw [List.getElem?_append_right (by omega)] at hx
          by_cases c2 : b = c
          · rw [c2, hc, Nat.sub_self] at hx
            cases hx
            rw [if_pos (by rw [c2])]
            refine ⟨?_, fun k hk => by rw [c2]; exact u236 k hk⟩
            rw [List.length_append]; rfl
          · rw [List.getElem?_eq_none (by simp; omega)] at hx; cases hx
      · rw [← hap]; exact wfb_ap _ hB.2.2.2
    · intro j hj
      simp only [haI, haL, n231_232, n231_227, false_and, if_false, true_and]
      rw [if_neg hj, if_neg hj, u231, u234]
      exact ⟨rfl, rfl⟩
  by_cases ho : opb bk = true
  · have h3 := hop ho
    have hap := apM_open (t, v) ho
    have i4 : (nI (320 * s + bk.length)).toNatClampNeg = 320 * s + bk.length := nI_clamp (by omega)
    have i5 : vp_in (nI (320 * s + bk.length)) 2560 := vp_in_nI (by omega) (by decide)
    have h0 := hM.1
    obtain ⟨r228, k228, l228⟩ : mR M 228 m = some (A 228) ∧ mK M (A 228) = 9 ∧ mN M (A 228) = 8 := hM.2 228 rfl
    obtain ⟨r232, k232, l232⟩ : mR M 232 m = some (A 232) ∧ mK M (A 232) = 9 ∧ mN M (A 232) = 2560 := hM.2 232 rfl
    have clr : ∀ d k U, k + d = 256 → MC O A m [227, 228, 231, 232, 234, 236] M U → MI A s M U → aI U (A 228) s = nI bk.length → aI U (A 232) (320 * s + bk.length) = 0 → (∀ b x, bk[b]? = some x → aI U (A 232) (320 * s + b) = nI x.1.length ∧ ∀ k, k < 256 → aI U (A 236) (256 * (320 * s + b) + k) = x.2 k) → (∀ j, j < k → aI U (A 236) (256 * (320 * s + bk.length) + j) = 0) → aI U (A 227) = aI M (A 227) → aI U (A 231) = aI M (A 231) → aL U (A 234) = aL M (A 234) → G 25 [(0, .ref m), (1, .int (nI s)), (2, .int t), (3, .long v), (6, .int (nI k))] [] U 0 0 := by
      intro d
      induction d with
      | zero =>
        intro k U hk hC hI u228 u232 uall u236 u227 u231 u234
        have hMU := hC.ms hM
        have g0 := hMU.1
        obtain ⟨ru228, ku228, lu228⟩ : mR U 228 m = some (A 228) ∧ mK U (A 228) = 9 ∧ mN U (A 228) = 8 := hMU.2 228 rfl
        have e1 : ¬ nI k < 256 := nI_nlt (b := 256) (by omega) (by omega)
        refine e_g2 hG [(68, [0, 1, 2, 3])] 60 ?_
        simp only [e_wp_s, Option.getD_some, Option.isSome_some, Option.isSome_none, xis0, xis1, xis2, xis3, xis4, e_ks, lk_k, lk_c, List.lookup_nil, gt_c, vi_i, k1_n, k1_c, k2_n, k2_c, ar_n, ar_c, pk_n, pk_c, rm_0, rm_1, rm_2, rm_3, rm_4, rm_5, rc_9, rcs, fvs, rf_s, rf_n, isI_i, isL_l, isR_r, isR_n, isR_q, ct_i, ct_l, ct_r, ct_n, ct_q, tFs, tCs, tKs, tJs, tSs, e_nf, lgs, ↓reduceIte, true_and, and_true, false_and, and_false, or_true, true_or, false_or, or_false, Nat.reduceAdd, Nat.reduceEqDiff, Nat.reduceDiv, Nat.reduceLT, Nat.reduceLeDiff, Nat.zero_add, reduceCtorEq, Bool.false_eq_true, Option.toList_some, Option.toList_none, List.cons_append, List.nil_append, not_true_eq_false, not_false_eq_true, Nat.sub_zero, dsX7_addMain, jsX7_addMain, xcX7_addMain, g0, ru228, ku228, lu228, sc, sv, u228, e1, nI_1]
        refine tail bk.length bk [] zf _ rfl h3 (MC.tI hC hO (by decide) rfl) (MI.tI hI hO rfl (Or.inl (Nat.div_one s))) ?_ ?_ (fun b x hx => ?_) (fun j hj => ?_) ?_ ?_ ?_ hap
        · simp only [haI, and_self, if_true]
        · simp only [haI, n232_228, false_and, if_false]; exact u232
        · simp only [haI, n232_228, n236_228, false_and, if_false]; exact uall b x hx
        · simp only [haI, n236_228, false_and, if_false]; exact u236 j (by omega)
        · funext j; simp only [haI, n227_228, false_and, if_false]; rw [u227]
        · funext j; simp only [haI, n231_228, false_and, if_false]; rw [u231]
        · simp only [haL]; exact u234
      | succ d ih =>
        intro k U hk hC hI u228 u232 uall u236 u227 u231 u234
        have hMU := hC.ms hM
        have g0 := hMU.1
        obtain ⟨ru228, ku228, lu228⟩ : mR U 228 m = some (A 228) ∧ mK U (A 228) = 9 ∧ mN U (A 228) = 8 := hMU.2 228 rfl
        obtain ⟨ru236, ku236, lu236⟩ : mR U 236 m = some (A 236) ∧ mK U (A 236) = 9 ∧ mN U (A 236) = 655360 := hMU.2 236 rfl
        have e1 : nI k < 256 := nI_lt (b := 256) (by omega) (by decide)
        have j1 : (nI (256 * (320 * s + bk.length) + k)).toNatClampNeg = 256 * (320 * s + bk.length) + k := nI_clamp (by omega)
        have j2 : vp_in (nI (256 * (320 * s + bk.length) + k)) 655360 := vp_in_nI (by omega) (by decide)
        refine e_g2 hG [(25, [0, 1, 2, 3, 6])] 60 ?_
        simp only [e_wp_s, Option.getD_some, Option.isSome_some, Option.isSome_none, xis0, xis1, xis2, xis3, xis4, e_ks, lk_k, lk_c, List.lookup_nil, gt_c, vi_i, k1_n, k1_c, k2_n, k2_c, ar_n, ar_c, pk_n, pk_c, rm_0, rm_1, rm_2, rm_3, rm_4, rm_5, rc_9, rcs, fvs, rf_s, rf_n, isI_i, isL_l, isR_r, isR_n, isR_q, ct_i, ct_l, ct_r, ct_n, ct_q, tFs, tCs, tKs, tJs, tSs, e_nf, lgs, ↓reduceIte, true_and, and_true, false_and, and_false, or_true, true_or, false_or, or_false, Nat.reduceAdd, Nat.reduceEqDiff, Nat.reduceDiv, Nat.reduceLT, Nat.reduceLeDiff, Nat.zero_add, reduceCtorEq, Bool.false_eq_true, Option.toList_some, Option.toList_none, List.cons_append, List.nil_append, not_true_eq_false, not_false_eq_true, Nat.sub_zero, dsX7_addMain, jsX7_addMain, xcX7_addMain, g0, ru228, ku228, lu228, ru236, ku236, lu236, sc, sv, u228, e1, j1, j2, nI_1, ↓sp_X7_mask, mst]
        refine ih (k + 1) _ (by omega) (MC.tI hC hO (by decide) rfl) (MI.tI hI hO rfl (Or.inl (by
          rw [show dvf 236 = 81920 from rfl, show 256 * (320 * s + bk.length) + k = 81920 * s + (256 * bk.length + k) by omega, dq 81920 s _ (by omega)]))) ?_ ?_ (fun b x hx => ?_) (fun j hj => ?_) ?_ ?_ ?_
        · simp only [haI, n228_236, false_and, if_false]; exact u228
        · simp only [haI, n232_236, false_and, if_false]; exact u232
        · have hb := (List.getElem?_eq_some_iff.mp hx).1
          simp only [haI, n232_236, false_and, if_false, true_and]
          refine ⟨(uall b x hx).1, fun j hj => ?_⟩
          rw [if_neg (by omega)]
          exact (uall b x hx).2 j hj
        · simp only [haI, true_and]
          by_cases c : j = k
          · rw [if_pos (by rw [c])]
          · rw [if_neg (by omega)]; exact u236 j (by omega)
        · funext j; simp only [haI, n227_236, false_and, if_false]; rw [u227]
        · funext j; simp only [haI, n231_236, false_and, if_false]; rw [u231]
        · simp only [haL]; exact u234
    rw [if_pos ho]
    refine e_g2 hG [(25, [0, 1, 2, 3, 6])] 60 ?_
    simp only [e_wp_s, Option.getD_some, Option.isSome_some, Option.isSome_none, xis0, xis1, xis2, xis3, xis4, e_ks, lk_k, lk_c, List.lookup_nil, gt_c, vi_i, k1_n, k1_c, k2_n, k2_c, ar_n, ar_c, pk_n, pk_c, rm_0, rm_1, rm_2, rm_3, rm_4, rm_5, rc_9, rcs, fvs, rf_s, rf_n, isI_i, isL_l, isR_r, isR_n, isR_q, ct_i, ct_l, ct_r, ct_n, ct_q, tFs, tCs, tKs, tJs, tSs, e_nf, lgs, ↓reduceIte, true_and, and_true, false_and, and_false, or_true, true_or, false_or, or_false, Nat.reduceAdd, Nat.reduceEqDiff, Nat.reduceDiv, Nat.reduceLT, Nat.reduceLeDiff, Nat.zero_add, reduceCtorEq, Bool.false_eq_true, Option.toList_some, Option.toList_none, List.cons_append, List.nil_append, not_true_eq_false, not_false_eq_true, Nat.sub_zero, dsX7_addMain, jsX7_addMain, xcX7_addMain, h0, r228, k228, l228, r232, k232, l232, sc, sv, bl, i4, i5, i10, ↓sp_X7_spot, spt]
    refine clr 256 0 _ (by omega) (MC.tI MC.rf hO (by decide) rfl) (MI.tI MI.rf hO rfl (Or.inl (dq 320 s _ (by omega)))) ?_ ?_ (fun b x hx => ?_) (fun j hj => by omega) ?_ ?_ ?_
    · simp only [haI, n228_232, false_and, if_false]; exact bl
    · simp only [haI, and_self, if_true]
    · have hb := (List.getElem?_eq_some_iff.mp hx).1
      simp only [haI, n236_232, false_and, if_false, true_and]
      rw [if_neg (by omega)]
      exact hB.2.2.1 b x hx
    · funext j; simp only [haI, n227_232, false_and, if_false]
    · funext j; simp only [haI, n231_232, false_and, if_false]
    · simp only [haL]
  · rcases nil_snoc bk with rfl | ⟨bk0, y, rfl⟩
    · exact absurd rfl ho
    · have hap := apM_more (t, v) ho
      have hlen : (bk0 ++ [y]).length = bk0.length + 1 := by simp
      rw [hlen] at bl h300
      obtain ⟨y1, y2⟩ := hB.2.2.1 bk0.length y (by simp)
      rw [if_neg ho]
      refine e_g2 hG [(68, [0, 1, 2, 3])] 60 ?_
      simp only [e_wp_s, Option.getD_some, Option.isSome_some, Option.isSome_none, xis0, xis1, xis2, xis3, xis4, e_ks, lk_k, lk_c, List.lookup_nil, gt_c, vi_i, k1_n, k1_c, k2_n, k2_c, ar_n, ar_c, pk_n, pk_c, rm_0, rm_1, rm_2, rm_3, rm_4, rm_5, rc_9, rcs, fvs, rf_s, rf_n, isI_i, isL_l, isR_r, isR_n, isR_q, ct_i, ct_l, ct_r, ct_n, ct_q, tFs, tCs, tKs, tJs, tSs, e_nf, lgs, ↓reduceIte, true_and, and_true, false_and, and_false, or_true, true_or, false_or, or_false, Nat.reduceAdd, Nat.reduceEqDiff, Nat.reduceDiv, Nat.reduceLT, Nat.reduceLeDiff, Nat.zero_add, reduceCtorEq, Bool.false_eq_true, Option.toList_some, Option.toList_none, List.cons_append, List.nil_append, not_true_eq_false, not_false_eq_true, Nat.sub_zero, dsX7_addMain, jsX7_addMain, xcX7_addMain]
      refine tail bk0.length bk0 y.1 y.2 M rfl (by omega) MC.rf MI.rf bl y1 (fun b x hx => ?_) y2 rfl rfl rfl hap
      have hb := (List.getElem?_eq_some_iff.mp hx).1
      exact hB.2.2.1 b x (by rw [List.getElem?_append_left hb]; exact hx)
theorem rb_opb (l : List PT) : opb (rb l) = decide (l.length % 16 = 0) := by
  obtain ⟨h1, h2⟩ := rb_inv l
  unfold rb
  rcases nil_snoc (l.foldl apM []) with hn | ⟨b, y, hn⟩
  · rw [hn] at h1 ⊢
    simp only [List.length_nil] at h1
    have : l.length = 0 := by omega
    rw [this]; rfl
  · rw [hn] at h1 h2 ⊢
    obtain ⟨y1, y2, y3, y4⟩ := h2 y List.getLast?_concat
    rw [List.length_append] at y2
    simp only [List.length_cons, List.length_nil] at y2
    rw [opb_snoc, y1, tcnt_0]
    by_cases c : y.1.length < 16
    · have : ¬ l.length % 16 = 0 := by omega
      simp [c, this]
    · have : l.length % 16 = 0 := by omega
      simp [c, this]
def csX7_reblock : CS := (cs_c 0 111 3 7 sp_X7_spot (cs_c 0 126 5 7 sp_X7_addMain cs_0))
theorem csoX7_reblock : ∀ op x na cl sp, csX7_reblock op x = some (na, cl, sp) → CallOK 7 3 71 op x na cl sp := (cs_c_ok (caX7_reblock_111 okX7_spot) (cs_c_ok (caX7_reblock_126 okX7_addMain) cs_0_ok))
theorem xcX7_reblock : (∀ (Q : QT) (G : GT) (pc : Nat) (L : LV) (a0 a1 a2 : Value) (r : List Value) (M : HM) (k n : Nat), ex_i 7 4 0 false csX7_reblock Q G (.invokevirtual 111) pc L (a2 :: a1 :: a0 :: r) M k n = (e_rm r ∧ e_rc M 7 [a0, a1, a2] ∧ sp_X7_spot [a0, a1, a2] M k n (fun v M' k' n' => G (pc + 3) L (v.toList ++ r) M' k' n'))) ∧ (∀ (Q : QT) (G : GT) (pc : Nat) (L : LV) (a0 a1 a2 a3 a4 : Value) (r : List Value) (M : HM) (k n : Nat), ex_i 7 4 0 false csX7_reblock Q G (.invokevirtual 126) pc L (a4 :: a3 :: a2 :: a1 :: a0 :: r) M k n = (e_rm r ∧ e_rc M 7 [a0, a1, a2, a3, a4] ∧ sp_X7_addMain [a0, a1, a2, a3, a4] M k n (fun v M' k' n' => G (pc + 3) L (v.toList ++ r) M' k' n'))) := ⟨(fun _ _ _ _ _ _ _ _ _ _ _ => xv0_3 rfl), (fun _ _ _ _ _ _ _ _ _ _ _ _ _ => xv0_5 rfl)⟩
def sp_X7_reblock : SP := fun as M k n Q => match as with
  | [.ref m, .int i] => ∃ O A s l, MS A M m ∧ GO O A m ∧ s < 8 ∧ mP A M s l ∧ i = nI s ∧ ∀ U, MC O A m [227, 228, 231, 232, 234, 236] M U → MI A s M U → mP A U s l → mB A U s (rb l) → Q none U k n
  | _ => False
theorem okX7_reblock : OkX7_reblock sp_X7_reblock := by
  refine inX7_reblock csoX7_reblock ?_
  intro as M k n Q hsp
  unfold sp_X7_reblock at hsp
  split at hsp
  rotate_left
  · exact hsp.elim
  rename_i m i
  obtain ⟨O, A, s, l, hM, hO, hs, hP, rfl, hq⟩ := hsp
  have n227_228 : ¬ A 227 = A 228 := hO.ne (f := 227) (g := 228) rfl rfl (by decide)
  have n227_231 : ¬ A 227 = A 231 := hO.ne (f := 227) (g := 231) rfl rfl (by decide)
  have n227_234 : ¬ A 227 = A 234 := hO.ne (f := 227) (g := 234) rfl rfl (by decide)
  have n228_227 : ¬ A 228 = A 227 := hO.ne (f := 228) (g := 227) rfl rfl (by decide)
  have n228_231 : ¬ A 228 = A 231 := hO.ne (f := 228) (g := 231) rfl rfl (by decide)
  have n228_234 : ¬ A 228 = A 234 := hO.ne (f := 228) (g := 234) rfl rfl (by decide)
  have n231_227 : ¬ A 231 = A 227 := hO.ne (f := 231) (g := 227) rfl rfl (by decide)
  have n231_228 : ¬ A 231 = A 228 := hO.ne (f := 231) (g := 228) rfl rfl (by decide)
  have n231_234 : ¬ A 231 = A 234 := hO.ne (f := 231) (g := 234) rfl rfl (by decide)
  have n234_227 : ¬ A 234 = A 227 := hO.ne (f := 234) (g := 227) rfl rfl (by decide)
  have n234_228 : ¬ A 234 = A 228 := hO.ne (f := 234) (g := 228) rfl rfl (by decide)
  have n234_231 : ¬ A 234 = A 231 := hO.ne (f := 234) (g := 231) rfl rfl (by decide)
  have sc : (nI s).toNatClampNeg = s := nI_clamp (by omega)
  have sv : vp_in (nI s) 8 := vp_in_nI hs (by decide)
  have h0 := hM.1
  obtain ⟨r227, k227, l227⟩ : mR M 227 m = some (A 227) ∧ mK M (A 227) = 9 ∧ mN M (A 227) = 8 := hM.2 227 rfl
  obtain ⟨r228, k228, l228⟩ : mR M 228 m = some (A 228) ∧ mK M (A 228) = 9 ∧ mN M (A 228) = 8 := hM.2 228 rfl
  have pl := hP.1
  have h300 := hP.2.1
  refine ⟨0, 0, Nat.zero_le _, Nat.zero_le _, Nat.le_of_ble_eq_true rfl, fun G hG => ?_⟩
  have loop : ∀ d k U, k + d = l.length → MC O A m [227, 228, 231, 232, 234, 236] M U → MI A s M U → mP A U s (l.take k) → mB A U s (rb (l.take k)) → (∀ j q, l[j]? = some q → aI U (A 231) (320 * s + j) = q.1 ∧ aL U (A 234) (320 * s + j) = q.2) → G 23 [(0, .ref m), (1, .int (nI s)), (2, .int (nI l.length)), (3, .int (nI k))] [] U 0 0 := by
    intro d
    induction d with
    | zero =>
      intro k U hk hC hI hP' hB' hat
      have e1 : ¬ nI k < nI l.length := nI_nlt (by omega) (by omega)
      rw [List.take_of_length_le (by omega)] at hP' hB'
      refine e_g2 hG [] 60 ?_
      simp only [e_wp_s, Option.getD_some, Option.isSome_some, Option.isSome_none, xis0, xis1, xis2, xis3, xis4, e_ks, lk_k, lk_c, List.lookup_nil, gt_c, vi_i, k1_n, k1_c, k2_n, k2_c, ar_n, ar_c, pk_n, pk_c, rm_0, rm_1, rm_2, rm_3, rm_4, rm_5, rc_9, rcs, fvs, rf_s, rf_n, isI_i, isL_l, isR_r, isR_n, isR_q, ct_i, ct_l, ct_r, ct_n, ct_q, tFs, tCs, tKs, tJs, tSs, e_nf, lgs, ↓reduceIte, true_and, and_true, false_and, and_false, or_true, true_or, false_or, or_false, Nat.reduceAdd, Nat.reduceEqDiff, Nat.reduceDiv, Nat.reduceLT, Nat.reduceLeDiff, Nat.zero_add, reduceCtorEq, Bool.false_eq_true, Option.toList_some, Option.toList_none, List.cons_append, List.nil_append, not_true_eq_false, not_false_eq_true, Nat.sub_zero, dsX7_reblock, jsX7_reblock, xcX7_reblock, e1]
      exact hq U hC hI hP' hB'
    | succ d ih =>
      intro k U hk hC hI hP' hB' hat
      have hMU := hC.ms hM
      have g0 := hMU.1
      obtain ⟨ru231, ku231, lu231⟩ : mR U 231 m = some (A 231) ∧ mK U (A 231) = 9 ∧ mN U (A 231) = 2560 := hMU.2 231 rfl
      obtain ⟨ru234, ku234, lu234⟩ : mR U 234 m = some (A 234) ∧ mK U (A 234) = 10 ∧ mN U (A 234) = 2560 := hMU.2 234 rfl
      have e1 : nI k < nI l.length := nI_lt (by omega) (by omega)
      obtain ⟨q, hq1⟩ : ∃ q, l[k]? = some q := ⟨_, List.getElem?_eq_getElem (by omega)⟩
      obtain ⟨a1, a2⟩ := hat k q hq1
      have i1 : (nI (320 * s + k)).toNatClampNeg = 320 * s + k := nI_clamp (by omega)
      have i2 : vp_in (nI (320 * s + k)) 2560 := vp_in_nI (by omega) (by decide)
      have d16 : nI k / 16 = nI (k / 16) := pk_div (d := 16) (by omega) (by decide) (by decide)
      have r16 : nI k - nI (k / 16) * 16 = nI (k % 16) := by
        have := pk_rem (a := k) (d := 16) (by omega) (by decide) (by decide)
        rw [show nI 16 = 16 from rfl, d16] at this
        exact this
      have z16 : ¬ (16 : Int32) = 0 := by decide
      have hop := rb_opb (l.take k)
      rw [List.length_take, Nat.min_eq_left (by omega)] at hop
      have hlt : (l.take k).length = k := by rw [List.length_take]; omega
      have htk := take_1 hq1
      have hrb : apM (rb (l.take k)) q = rb (l.take (k + 1)) := by unfold rb; rw [htk, List.foldl_append]; rfl
      have hrl := (rb_inv (l.take k)).1
      have goon : sp_X7_addMain [.ref m, .int (nI s), .int q.1, .long q.2, .int (if opb (rb (l.take k)) then 1 else 0)] U 0 0 (fun v M' k' n' => G 67 [(0, .ref m), (1, .int (nI s)), (2, .int (nI l.length)), (3, .int (nI k))] (v.toList ++ []) M' k' n') := by
        refine ⟨O, A, s, l.take k, rb (l.take k), hMU, hO, hs, hP', by rw [hlt]; omega, hB', rfl, rfl, fun _ => by
          unfold rb; rw [hrl, hlt]; omega, fun U2 hC2 hI2 hP2 hB2 hch => ?_⟩
        refine e_g2 hG [(23, [0, 1, 2, 3])] 60 ?_
        simp only [e_wp_s, Option.getD_some, Option.isSome_some, Option.isSome_none, xis0, xis1, xis2, xis3, xis4, e_ks, lk_k, lk_c, List.lookup_nil, gt_c, vi_i, k1_n, k1_c, k2_n, k2_c, ar_n, ar_c, pk_n, pk_c, rm_0, rm_1, rm_2, rm_3, rm_4, rm_5, rc_9, rcs, fvs, rf_s, rf_n, isI_i, isL_l, isR_r, isR_n, isR_q, ct_i, ct_l, ct_r, ct_n, ct_q, tFs, tCs, tKs, tJs, tSs, e_nf, lgs, ↓reduceIte, true_and, and_true, false_and, and_false, or_true, true_or, false_or, or_false, Nat.reduceAdd, Nat.reduceEqDiff, Nat.reduceDiv, Nat.reduceLT, Nat.reduceLeDiff, Nat.zero_add, reduceCtorEq, Bool.false_eq_true, Option.toList_some, Option.toList_none, List.cons_append, List.nil_append, not_true_eq_false, not_false_eq_true, Nat.sub_zero, dsX7_reblock, jsX7_reblock, xcX7_reblock, nI_1]
        refine ih (k + 1) U2 (by omega) (hC.tr hC2) (hI.tr hI2) (by rw [htk]; exact hP2) (by rw [← hrb]; exact hB2) (fun j r hr => ?_)
        by_cases c : j = k
        · have hx := mP_at hP2 (i := k) (q := q) (by
            rw [List.getElem?_append_right (by rw [hlt]; exact Nat.le_refl _), hlt, Nat.sub_self]; rfl)
          rw [c] at hr
          rw [hq1] at hr
          cases hr
          rw [c]
          exact ⟨hx.1, hx.2.1⟩
        · obtain ⟨w1, w2⟩ := hch (320 * s + j) (by rw [hlt]; omega)
          rw [w1, w2]; exact hat j r hr
      by_cases c : k % 16 = 0
      · have hz : nI (k % 16) = 0 := by rw [c]; rfl
        rw [hop, decide_eq_true c] at goon
        refine e_g2 hG [(67, [0, 1, 2, 3])] 60 ?_
        simp only [e_wp_s, Option.getD_some, Option.isSome_some, Option.isSome_none, xis0, xis1, xis2, xis3, xis4, e_ks, lk_k, lk_c, List.lookup_nil, gt_c, vi_i, k1_n, k1_c, k2_n, k2_c, ar_n, ar_c, pk_n, pk_c, rm_0, rm_1, rm_2, rm_3, rm_4, rm_5, rc_9, rcs, fvs, rf_s, rf_n, isI_i, isL_l, isR_r, isR_n, isR_q, ct_i, ct_l, ct_r, ct_n, ct_q, tFs, tCs, tKs, tJs, tSs, e_nf, lgs, ↓reduceIte, true_and, and_true, false_and, and_false, or_true, true_or, false_or, or_false, Nat.reduceAdd, Nat.reduceEqDiff, Nat.reduceDiv, Nat.reduceLT, Nat.reduceLeDiff, Nat.zero_add, reduceCtorEq, Bool.false_eq_true, Option.toList_some, Option.toList_none, List.cons_append, List.nil_append, not_true_eq_false, not_false_eq_true, Nat.sub_zero, dsX7_reblock, jsX7_reblock, xcX7_reblock, g0, ru231, ku231, lu231, ru234, ku234, lu234, e1, i1, i2, a1, a2, d16, r16, z16, hz, ↓sp_X7_spot, spt]
        exact goon
      · have hz : ¬ nI (k % 16) = 0 := nI_ne0 (by omega) (by omega)
        rw [hop, decide_eq_false c] at goon
        refine e_g2 hG [(67, [0, 1, 2, 3])] 60 ?_
        simp only [e_wp_s, Option.getD_some, Option.isSome_some, Option.isSome_none, xis0, xis1, xis2, xis3, xis4, e_ks, lk_k, lk_c, List.lookup_nil, gt_c, vi_i, k1_n, k1_c, k2_n, k2_c, ar_n, ar_c, pk_n, pk_c, rm_0, rm_1, rm_2, rm_3, rm_4, rm_5, rc_9, rcs, fvs, rf_s, rf_n, isI_i, isL_l, isR_r, isR_n, isR_q, ct_i, ct_l, ct_r, ct_n, ct_q, tFs, tCs, tKs, tJs, tSs, e_nf, lgs, ↓reduceIte, true_and, and_true, false_and, and_false, or_true, true_or, false_or, or_false, Nat.reduceAdd, Nat.reduceEqDiff, Nat.reduceDiv, Nat.reduceLT, Nat.reduceLeDiff, Nat.zero_add, reduceCtorEq, Bool.false_eq_true, Option.toList_some, Option.toList_none, List.cons_append, List.nil_append, not_true_eq_false, not_false_eq_true, Nat.sub_zero, dsX7_reblock, jsX7_reblock, xcX7_reblock, g0, ru231, ku231, lu231, ru234, ku234, lu234, e1, i1, i2, a1, a2, d16, r16, z16, hz, ↓sp_X7_spot, spt]
        exact goon
  refine e_g2 hG [(23, [0, 1, 2, 3])] 60 ?_
  simp only [e_wp_s, Option.getD_some, Option.isSome_some, Option.isSome_none, xis0, xis1, xis2, xis3, xis4, e_ks, lk_k, lk_c, List.lookup_nil, gt_c, vi_i, k1_n, k1_c, k2_n, k2_c, ar_n, ar_c, pk_n, pk_c, rm_0, rm_1, rm_2, rm_3, rm_4, rm_5, rc_9, rcs, fvs, rf_s, rf_n, isI_i, isL_l, isR_r, isR_n, isR_q, ct_i, ct_l, ct_r, ct_n, ct_q, tFs, tCs, tKs, tJs, tSs, e_nf, lgs, ↓reduceIte, true_and, and_true, false_and, and_false, or_true, true_or, false_or, or_false, Nat.reduceAdd, Nat.reduceEqDiff, Nat.reduceDiv, Nat.reduceLT, Nat.reduceLeDiff, Nat.zero_add, reduceCtorEq, Bool.false_eq_true, Option.toList_some, Option.toList_none, List.cons_append, List.nil_append, not_true_eq_false, not_false_eq_true, Nat.sub_zero, dsX7_reblock, jsX7_reblock, xcX7_reblock, h0, r227, k227, l227, r228, k228, l228, n227_228, n228_227, sc, sv, pl, hmK, hmN, hmI, hmL, hmR, haI, haL, haR, nI_0]
  refine loop l.length 0 _ (by omega) (MC.tI (MC.tI MC.rf hO (by decide) rfl) hO (by decide) rfl) (MI.tI (MI.tI MI.rf hO rfl (Or.inl (Nat.div_one s))) hO rfl (Or.inl (Nat.div_one s))) ⟨?_, (by show 0 ≤ 300; decide), rfl⟩ ⟨?_, (by show 0 ≤ 300; decide), fun b x hx => ?_, ?_⟩ (fun j q hj => ?_)
  · simp only [haI, and_self, if_true]; rfl
  · simp only [haI, n228_227, false_and, if_false, and_self, if_true]; rfl
  · simp [rb] at hx
  · intro x hx; simp [rb] at hx
  · simp only [haI, haL, n231_227, n231_228, false_and, if_false]
    obtain ⟨w1, w2, -⟩ := mP_at hP hj
    exact ⟨w1, w2⟩
