/-! frames; clear, new, flip, check of blocks that hold points -/
def Fr (S : Nat → Nat × Nat → Prop) (O O' : GH) (M M' : HM) : Prop := ∀ a, mK M a ≠ 0 → mK M' a = mK M a ∧ O' a = O a ∧ (¬ S a (O a) → Sm a M M')
theorem Fr.rf {S : Nat → Nat × Nat → Prop} {O : GH} {M : HM} : Fr S O O M M := fun _ _ => ⟨rfl, rfl, fun _ => Sm.rf⟩
theorem Fr.tr {S : Nat → Nat × Nat → Prop} {O O' O2 : GH} {M M' M2 : HM} (h : Fr S O O' M M') (g : Fr S O' O2 M' M2) : Fr S O O2 M M2 := fun a ha => by
  obtain ⟨h1, h2, h3⟩ := h a ha
  obtain ⟨g1, g2, g3⟩ := g a (by rw [h1]; exact ha)
  exact ⟨g1.trans h1, g2.trans h2, fun hs => (h3 hs).tr (g3 (by rw [h2]; exact hs))⟩
theorem Fr.mono {S S' : Nat → Nat × Nat → Prop} {O O' : GH} {M M' : HM} (h : Fr S O O' M M') (hs : ∀ a o, S a o → S' a o) : Fr S' O O' M M' := fun a ha => ⟨(h a ha).1, (h a ha).2.1, fun q => (h a ha).2.2 (fun z => q (hs _ _ z))⟩
def Sb (s b : Nat) : Nat → Nat × Nat → Prop := fun a o => a = b ∨ o = (s, b)
def Ss (s : Nat) : Nat → Nat × Nat → Prop := fun _ o => o.1 = s
def S1 (b : Nat) : Nat → Nat × Nat → Prop := fun a _ => a = b
theorem Fr.b2s {s b : Nat} {O O' : GH} {M M' : HM} (h : Fr (Sb s b) O O' M M') (hb : (O b).1 = s) : Fr (Ss s) O O' M M' := fun a ha => ⟨(h a ha).1, (h a ha).2.1, fun q => (h a ha).2.2 (fun z => q (by
  rcases z with rfl | z
  · exact hb
  · show (O a).1 = s
    rw [z]))⟩
theorem fr_K {S : Nat → Nat × Nat → Prop} {O : GH} {M M' : HM} (hK : mK M' = mK M) (h : ∀ a, ¬ S a (O a) → Sm a M M') : Fr S O O M M' := fun a _ => ⟨by rw [hK], rfl, h a⟩
/-- a block's picture in a frame -/
theorem BRep.frm {S : Nat → Nat × Nat → Prop} {O O' : GH} {M N : HM} {s b : Nat} {l : List PT} {f : Nat → Int32} (h : BRep O M s b l f) (hF : Fr S O O' M N) (h1 : ¬ S b (s, s)) (h2 : ∀ a, ¬ S a (s, b)) : BRep O' N s b l f := by
  obtain ⟨⟨w1, w2, w3, w4, w5⟩, ⟨o1, o2⟩, h3, -⟩ := id h
  refine h.fr ?_ ?_ ?_ (fun a ha => (hF a ha).2.1)
  · exact (hF b (by rw [w1]; decide)).2.2 (by rw [o1]; exact h1)
  · exact (hF _ (by rw [w3]; decide)).2.2 (by rw [o2]; exact h2 _)
  · intro z hz
    exact (hF z (by rw [(w5 z hz).1]; decide)).2.2 (by rw [(h3 z hz).1]; exact h2 _)
theorem BRep.other {O O' : GH} {M N : HM} {s b c : Nat} {l : List PT} {f : Nat → Int32} (h : BRep O M s b l f) (hF : Fr (Sb s c) O O' M N) (h1 : b ≠ c) (h2 : c ≠ s) (hc : mK M c = 1) : BRep O' N s b l f := by
  obtain ⟨⟨w1, w2, w3, w4, w5⟩, ⟨o1, o2⟩, h3, -⟩ := id h
  refine h.fr ?_ ?_ ?_ (fun a ha => (hF a ha).2.1)
  · exact (hF b (by rw [w1]; decide)).2.2 (fun z => z.elim (fun z => h1 z) (fun z => h2 (by rw [o1] at z; exact (congrArg Prod.snd z).symm)))
  · exact (hF _ (by rw [w3]; decide)).2.2 (fun z => z.elim (fun z => by rw [z, hc] at w3; cases w3) (fun z => h1 (by rw [o2] at z; exact congrArg Prod.snd z)))
  · intro z hz
    have k := (w5 z hz).1
    exact (hF _ (by rw [k]; decide)).2.2 (fun q => q.elim (fun q => by rw [q, hc] at k; cases k) (fun q => h1 (by rw [(h3 z hz).1] at q; exact congrArg Prod.snd q)))
theorem apF {O : GH} {M : HM} {s b k n : Nat} {l : List PT} {t : Int32} {v : Int64} {Q : QT} (h : BRep O M s b l zf) (h16 : l.length < 16) (hq : ∀ M', BRep O M' s b (l ++ [(t, v)]) zf → Fr (Sb s b) O O M M' → Q none M' k n) : sp_X0_append [.ref b, .int t, .long v] M k n Q := by
  refine apA h h16 (fun M' h1 h2 h3 => hq M' h1 (fr_K h3 (fun a ha => h2 a (fun e => ha (Or.inl e)) (fun e => ha (Or.inr ?_)))))
  rw [e]; exact h.2.1.2
theorem tcnt_0 : ∀ n, tcnt zf n = 0
  | 0 => rfl
  | n + 1 => by rw [tcnt, tcnt_0 n]; rfl
theorem byt_hi {l : List PT} (h : l.length ≤ 16) {k : Nat} (hk : 226 ≤ k) : byt (eB (enc l)) k = 0 := by
  unfold byt
  rw [wbl_hi _ _ _ _ (by
    by_cases hl : l = []
    · subst hl; exact Nat.zero_le _
    · have := ((enc_len l).2 hl).1
      omega)]
theorem byt_nil (i : Nat) : 0 = byt (eB (enc [])) i ^^^ zf i := by
  show (0 : Int32) = 0 ^^^ 0
  decide
theorem clA {O : GH} {M : HM} {s b k n : Nat} {l : List PT} {f : Nat → Int32} {Q : QT} (h : BRep O M s b l f) (hq : ∀ M', BRep O M' s b [] zf → Fr (Sb s b) O O M M' → Q none M' k n) : sp_X0_clear [.ref b] M k n Q := by
  obtain ⟨w, ⟨o1, o2⟩, h3, h4, h5, h6, h7, h8, h9, h10, h11, h12, h13, h14⟩ := id h
  obtain ⟨w1, w2, w3, w4, w5⟩ := id w
  refine ⟨w, ?_⟩
  have hy : ∀ i, (if i < 226 then (0 : Int32) else aI M (bt M b) i) = 0 := fun i => by
    by_cases c : i < 226
    · rw [if_pos c]
    · rw [if_neg c, h6 i, byt_hi h9.2 (by omega), h5 i (by omega)]; rfl
  have e0 : enc [] = ([], 0, 0, 0, 0, 0) := rfl
  -- the flips first
  obtain ⟨X, hX, x1, x2, x3, x4, x5, x6, x7, x8, x9⟩ : ∃ X, X = clF (uI M (bt M b) (fun i => if i < 226 then 0 else aI M (bt M b) i)) b ∧ mK X = mK M ∧ mN X = mN M ∧ mR X = mR M ∧ mL X = mL M ∧ mI X = mI M ∧ (∀ i, aI X (bt M b) i = 0) ∧ (∀ z, mR M 1 b = some z → aI X z = zf) ∧ (∀ a, O a ≠ (s, b) → Sm a M X) ∧ aR X = aR M := by
    refine ⟨_, rfl, ?_⟩
    unfold clF
    rw [hmU.2.2.2.2.1]
    cases hf : mR M 1 b with
    | none =>
      simp only [hmU, true_and, and_true, if_true]
      refine ⟨hy, fun z hz => by simp at hz, fun a ha => sm_uI (fun e => ha (by rw [e]; exact o2)) Sm.rf⟩
    | some z =>
      obtain ⟨q1, q2, q3⟩ := w5 z hf
      have q4 : ¬ bt M b = z := fun e => q3 e.symm
      simp only [hmU, true_and, and_true, if_true, q3, q4, if_false]
      refine ⟨hy, fun z2 hz => ?_, fun a ha => sm_uI (fun e => ha (by rw [e]; exact (h3 z hf).1)) (sm_uI (fun e => ha (by rw [e]; exact o2)) Sm.rf)⟩
      cases hz
      simp only [if_true]
      funext i
      by_cases c : i < 226
      · rw [if_pos c]; rfl
      · rw [if_neg c, (h3 z hf).2, h5 i (by omega)]; rfl
  unfold clM
  rw [← hX] 
  have hbt : ∀ N : HM, mR N = mR M → bt N b = bt M b := fun N e => by unfold bt; rw [e]
  refine hq _ ?_ ?_
  · have eR : mR (sI (sI (sI (sL (sI (sI (sI X 2 b 0) 3 b 0) 4 b 0) 9 b 0) 10 b 0) 12 b 0) 13 b 0) = mR M := by simp only [hmR, x3]
    have eK : mK (sI (sI (sI (sL (sI (sI (sI X 2 b 0) 3 b 0) 4 b 0) 9 b 0) 10 b 0) 12 b 0) 13 b 0) = mK M := by simp only [hmK, x1]
    have eN : mN (sI (sI (sI (sL (sI (sI (sI X 2 b 0) 3 b 0) 4 b 0) 9 b 0) 10 b 0) 12 b 0) 13 b 0) = mN M := by simp only [hmN, x2]
    have eA : aI (sI (sI (sI (sL (sI (sI (sI X 2 b 0) 3 b 0) 4 b 0) 9 b 0) 10 b 0) 12 b 0) 13 b 0) = aI X := by simp only [haI]
    have hb := hbt _ eR
    refine ⟨⟨by rw [eK]; exact w1, by rw [eR, hb]; exact w2, by rw [eK, hb]; exact w3, by rw [eN, hb]; exact w4, by rw [eR, eK, eN, hb]; exact w5⟩, ⟨o1, by rw [hb]; exact o2⟩, ?_, fun _ => rfl, fun _ _ => rfl, ?_, ?_, ?_, ⟨?_, by decide⟩, ?_, ?_, ?_, ?_, fun q => absurd rfl q⟩
    · intro z hz
      rw [eR] at hz
      rw [eA]
      exact ⟨(h3 z hz).1, x7 z hz⟩
    · intro i; rw [hb, eA, x6 i]; exact byt_nil i
    · simp only [hmI, Nat.reduceEqDiff, false_and, and_self, if_false, if_true]; rw [tcnt_0]; rfl
    · simp only [hmI, Nat.reduceEqDiff, false_and, and_self, if_false, if_true]; rfl
    · simp only [hmI, Nat.reduceEqDiff, false_and, and_self, if_false, if_true]; rfl
    · simp only [hmL, Nat.reduceEqDiff, false_and, and_self, if_false, if_true]; rfl
    · simp only [hmI, Nat.reduceEqDiff, false_and, and_self, if_false, if_true]; rfl
    · simp only [hmI, Nat.reduceEqDiff, false_and, and_self, if_false, if_true]; rfl
    · simp only [hmI, Nat.reduceEqDiff, false_and, and_self, if_false, if_true]; rfl
  · refine fr_K (by simp only [hmK, x1]) (fun a ha => ?_)
    have ha1 : a ≠ b := fun e => ha (Or.inl e)
    exact sm_sI ha1 (sm_sI ha1 (sm_sI ha1 (sm_sL ha1 (sm_sI ha1 (sm_sI ha1 (sm_sI ha1 (x8 a (fun e => ha (Or.inr e)))))))))
/-- a new block -/
def O2 (O : GH) (s q y : Nat) : GH := fun a => if a = q then (s, s) else if a = y then (s, q) else O a
theorem newB {O : GH} {M : HM} {s q y : Nat} (hq : mK M q = 0) (hy : mK (nO M 0 q) y = 0) : BRep (O2 O s q y) (inB (nO M 0 q) q y) s q [] zf ∧ Fr (fun _ _ => False) O (O2 O s q y) M (inB (nO M 0 q) q y) := by
  have hqy : y ≠ q := fun e => by rw [e] at hy; simp [hmK] at hy
  have hqy' : ¬ q = y := fun e => hqy e.symm
  have hy0 : mK M y = 0 := by simpa [hmK, hqy] using hy
  have hbt : bt (inB (nO M 0 q) q y) q = y := by
    unfold bt inB
    simp only [hmR, Nat.reduceEqDiff, false_and, and_self, if_false, if_true]; rfl
  have hR1 : mR (inB (nO M 0 q) q y) 1 q = none := by
    unfold inB
    simp only [hmR, Nat.reduceEqDiff, false_and, and_self, if_false, if_true]
  refine ⟨⟨⟨?_, ?_, ?_, ?_, fun z hz => (by rw [hR1] at hz; cases hz)⟩, ⟨by simp [O2], by rw [hbt]; simp [O2, hqy]⟩, fun z hz => (by rw [hR1] at hz; cases hz), fun _ => rfl, fun _ _ => rfl, ?_, ?_, ?_, ⟨?_, by decide⟩, ?_, ?_, ?_, ?_, fun q => absurd rfl q⟩, ?_⟩
  · unfold inB; simp only [hmK, hqy', if_false, if_true]
  · rw [hbt]; unfold inB; simp only [hmR, Nat.reduceEqDiff, false_and, and_self, if_false, if_true]
  · rw [hbt]; unfold inB; simp only [hmK, if_true]
  · rw [hbt]; unfold inB; simp only [hmN, if_true]
  · intro k; rw [hbt]; unfold inB; simp only [haI, if_true]; exact byt_nil k
  · unfold inB; simp only [hmI, Nat.reduceEqDiff, false_and, and_self, if_false, if_true]; rw [tcnt_0]; rfl
  · unfold inB; simp only [hmI, Nat.reduceEqDiff, false_and, and_self, if_false, if_true]; rfl
  · unfold inB; simp only [hmI, Nat.reduceEqDiff, false_and, and_self, if_false, if_true]; rfl
  · unfold inB; simp only [hmL, Nat.reduceEqDiff, false_and, and_self, if_false, if_true]; rfl
  · unfold inB; simp only [hmI, Nat.reduceEqDiff, false_and, and_self, if_false, if_true]; rfl
  · unfold inB; simp only [hmI, Nat.reduceEqDiff, false_and, and_self, if_false, if_true]; rfl
  · unfold inB; simp only [hmI, Nat.reduceEqDiff, false_and, and_self, if_false, if_true]; rfl
  · intro a ha
    have a1 : a ≠ q := fun e => by rw [e, hq] at ha; exact ha rfl
    have a2 : a ≠ y := fun e => by rw [e, hy0] at ha; exact ha rfl
    have hS : Sm a M (inB (nO M 0 q) q y) := by
      unfold inB
      exact sm_sI a1 (sm_sI a1 (sm_sL a1 (sm_sI a1 (sm_sL a1 (sm_sL a1 (sm_sL a1 (sm_sI a1 (sm_sI a1 (sm_sI a1 (sm_sI a1 (sm_sI a1 (sm_sR a1 (sm_sR a1 (sm_nA a2 (sm_nO a1 Sm.rf)))))))))))))))
    exact ⟨hS.1, by simp [O2, a1, a2], fun _ => hS⟩
theorem tcnt_le (f : Nat → Int32) : ∀ n, tcnt f n ≤ n
  | 0 => Nat.le_refl _
  | n + 1 => by
    have := tcnt_le f n
    rw [tcnt]
    split <;> omega
theorem tcnt_eq0 (f : Nat → Int32) : ∀ n, tcnt f n = 0 → ∀ k, k < n → f k = 0
  | 0, _, k, hk => by omega
  | n + 1, h, k, hk => by
    rw [tcnt] at h
    by_cases e : k = n
    · subst e
      by_cases c : f k = 0
      · exact c
      · rw [if_neg c] at h; omega
    · exact tcnt_eq0 f n (by omega) k (by omega)
def flx (f : Nat → Int32) (j : Nat) (m : Int32) : Nat → Int32 := fun k => if k = j then f k ^^^ m else f k
theorem tcnt_flx (f : Nat → Int32) (j : Nat) (m : Int32) : ∀ n, nI (tcnt (flx f j m) n) = if j < n then nI (tcnt f n) + ((if f j ^^^ m = 0 then 0 else 1) - (if f j = 0 then 0 else 1)) else nI (tcnt f n)
  | 0 => by simp [tcnt]
  | n + 1 => by
    have ih := tcnt_flx f j m n
    rw [tcnt, tcnt, ← nI_add, ← nI_add, ih]
    have d : ∀ x : Int32, nI (if x = 0 then 0 else 1) = if x = 0 then 0 else 1 := fun x => by split <;> rfl
    rw [d, d]
    by_cases c : j < n
    · have e : flx f j m n = f n := by unfold flx; rw [if_neg (by omega)]
      rw [if_pos c, if_pos (show j < n + 1 by omega), e, Int32.add_assoc, Int32.add_assoc, Int32.add_comm (_ - _)]
    · rw [if_neg c]
      by_cases c2 : j = n
      · subst c2
        have e : flx f j m j = f j ^^^ m := by unfold flx; rw [if_pos rfl]
        rw [if_pos (show j < j + 1 by omega), e]
        split <;> split <;> first | (simp; done) | (rw [Int32.add_assoc, show (1 : Int32) + (0 - 1) = 0 from rfl])
      · have e : flx f j m n = f n := by unfold flx; rw [if_neg (fun q => c2 q.symm)]
        rw [if_neg (show ¬ j < n + 1 by omega), e]
/-- one byte turned -/
theorem flA {O : GH} {M : HM} {s b z j : Nat} {m : Int32} {l : List PT} {f : Nat → Int32} (h : BRep O M s b l f) (hz : mR M 1 b = some z) (hj : j < 226) : BRep O (flS M b z j m) s b l (flx f j m) ∧ Fr (Sb s b) O O M (flS M b z j m) := by
  obtain ⟨⟨w1, w2, w3, w4, w5⟩, ⟨o1, o2⟩, h3, h4, h5, h6, h7, h8, h9, h10, h11, h12, h13, h14⟩ := id h
  obtain ⟨q1, q2, q3⟩ := w5 z hz
  have q4 : ¬ bt M b = z := fun e => q3 e.symm
  obtain ⟨p1, p2⟩ := h3 z hz
  have hbt : bt (flS M b z j m) b = bt M b := rfl
  have hR : mR (flS M b z j m) = mR M := rfl
  have hK : mK (flS M b z j m) = mK M := rfl
  have hN : mN (flS M b z j m) = mN M := rfl
  have hL : mL (flS M b z j m) = mL M := rfl
  have hI : ∀ g, g ≠ 2 → mI (flS M b z j m) g b = mI M g b := fun g hg => by unfold flS; simp only [hmI, hg, false_and, if_false]
  refine ⟨⟨⟨w1, w2, w3, w4, w5⟩, ⟨o1, o2⟩, ?_, ?_, ?_, ?_, ?_, ?_, ?_, ?_, ?_, ?_, ?_, ?_⟩, ?_⟩
  · intro z2 hz2
    rw [hR] at hz2
    have : z2 = z := Option.some.inj (hz2.symm.trans hz)
    subst this
    refine ⟨p1, ?_⟩
    funext i
    unfold flS flx
    simp only [haI, q3, false_and, if_false, true_and]
    by_cases c : i = j
    · rw [if_pos c, if_pos c, p2, c]
    · rw [if_neg c, if_neg c, p2]
  · intro q; rw [hR, hz] at q; cases q
  · intro i hi
    unfold flx
    rw [if_neg (by omega)]
    exact h5 i hi
  · intro i
    rw [hbt]
    unfold flS flx
    simp only [haI, q4, false_and, if_false, true_and]
    by_cases c : i = j
    · rw [if_pos c, if_pos c, ← c, h6 i, Int32.xor_assoc]
    · rw [if_neg c, if_neg c, h6 i]
  · have ht := tcnt_flx f j m 226
    rw [if_pos hj] at ht
    rw [ht]
    unfold flS
    simp only [hmI, and_self, if_true]
    rw [h7, p2]
  · rw [hI 3 (by decide)]; exact h8
  · rw [hI 4 (by decide)]; exact h9
  · rw [hL]; exact h10
  · rw [hI 10 (by decide)]; exact h11
  · rw [hI 12 (by decide)]; exact h12
  · rw [hI 13 (by decide)]; exact h13
  · intro hl
    rw [hI 5 (by decide), hI 6 (by decide), hL]; exact h14 hl
  · refine fr_K rfl (fun a ha => ?_)
    have a1 : a ≠ b := fun e => ha (Or.inl e)
    have a2 : a ≠ bt M b := fun e => ha (Or.inr (by rw [e]; exact o2))
    have a3 : a ≠ z := fun e => ha (Or.inr (by rw [e]; exact p1))
    exact sm_sI a1 (sm_tI a2 (sm_tI a3 Sm.rf))
def O1 (O : GH) (y : Nat) (o : Nat × Nat) : GH := fun a => if a = y then o else O a
/-- the masks are made -/
theorem flN {O : GH} {M : HM} {s b y : Nat} {l : List PT} {f : Nat → Int32} (h : BRep O M s b l f) (hz : mR M 1 b = none) (hy : mK M y = 0) : BRep (O1 O y (s, b)) (sR (nA M 9 y 226) 1 b (some y)) s b l f ∧ Fr (Sb s b) O (O1 O y (s, b)) M (sR (nA M 9 y 226) 1 b (some y)) := by
  obtain ⟨⟨w1, w2, w3, w4, w5⟩, ⟨o1, o2⟩, h3, h4, h5, h6, h7, h8, h9, h10, h11, h12, h13, h14⟩ := id h
  have n1 : ¬ b = y := fun e => by rw [e, hy] at w1; cases w1
  have n2 : ¬ bt M b = y := fun e => by rw [e, hy] at w3; cases w3
  have hf := h4 hz
  have hbt : bt (sR (nA M 9 y 226) 1 b (some y)) b = bt M b := rfl
  refine ⟨⟨⟨?_, ?_, ?_, ?_, ?_⟩, ⟨?_, ?_⟩, ?_, ?_, h5, ?_, h7, h8, h9, h10, h11, h12, h13, h14⟩, ?_⟩
  · simp only [hmK, n1, if_false]; exact w1
  · simp only [hmR, Nat.reduceEqDiff, false_and, if_false]; exact w2
  · rw [hbt]; simp only [hmK, n2, if_false]; exact w3
  · rw [hbt]; simp only [hmN, n2, if_false]; exact w4
  · intro z q
    simp only [hmR, and_self, if_true, Option.some.injEq] at q
    subst q
    rw [hbt]
    simp only [hmK, hmN, if_true, true_and]
    exact fun e => n2 e.symm
  · simp [O1, n1, o1]
  · rw [hbt]; simp [O1, n2, o2]
  · intro z q
    simp only [hmR, and_self, if_true, Option.some.injEq] at q
    subst q
    refine ⟨by simp [O1], ?_⟩
    rw [hf]
    funext i
    simp only [haI, if_true]; rfl
  · intro q
    simp only [hmR, and_self, if_true] at q
    cases q
  · intro k
    rw [hbt]; simp only [haI, n2, if_false]; exact h6 k
  · intro a ha
    have a1 : a ≠ y := fun e => by rw [e, hy] at ha; exact ha rfl
    refine ⟨by simp only [hmK, a1, if_false], by simp [O1, a1], fun q => ?_⟩
    exact sm_sR (fun e => q (Or.inl e)) (sm_nA a1 Sm.rf)
/-- Block.flip -/
theorem flF {O : GH} {M : HM} {s b j k n : Nat} {m : Int32} {l : List PT} {f : Nat → Int32} {Q : QT} (h : BRep O M s b l f) (hj : j < 226) (hk : 1 ≤ k) (hn : 226 ≤ n) (hq : ∀ M' O' k' n', BRep O' M' s b l (flx f j m) → Fr (Sb s b) O O' M M' → Q none M' k' n') : sp_X0_flip [.ref b, .int (nI j), .int m] M k n Q := by
  refine ⟨j, h.1, rfl, hj, fun z hz => ?_, fun hz => ⟨hk, hn, fun y hy => ?_⟩⟩
  · obtain ⟨g1, g2⟩ := flA (m := m) h hz hj
    exact hq _ _ _ _ g1 g2
  · obtain ⟨g1, g2⟩ := flN h hz hy
    have hz2 : mR (sR (nA M 9 y 226) 1 b (some y)) 1 b = some y := by simp only [hmR, and_self, if_true]
    obtain ⟨g3, g4⟩ := flA (m := m) g1 hz2 hj
    exact hq _ _ _ _ g3 (g2.tr g4)
theorem bmade_r {O : GH} {M : HM} {s b j : Nat} {l : List PT} {f : Nat → Int32} (h : BRep O M s b l f) : bmade M b j = byt (eB (enc l)) j := by
  obtain ⟨w, o, h3, h4, h5, h6, -⟩ := h
  have e : flB M b j = f j := by
    unfold flB
    cases hz : mR M 1 b with
    | none => rw [h4 hz]; rfl
    | some z => simp only; rw [(h3 z hz).2]
  unfold bmade
  rw [e, h6 j, Int32.xor_assoc, Int32.xor_self, Int32.xor_zero]
theorem ckS_r {O : GH} {M : HM} {s b : Nat} {l : List PT} {f : Nat → Int32} (h : BRep O M s b l f) : ∀ n, ckS M b n = sm (byt (eB (enc l))) n
  | 0 => rfl
  | n + 1 => by rw [ckS, ckS_r h n, bmade_r h, sm]
theorem enc_1808 {l : List PT} (h : l.length ≤ 16) : (eB (enc l)).length ≤ 1806 := by
  by_cases hl : l = []
  · subst hl; decide
  · have := ((enc_len l).2 hl).1; omega
theorem ckA {O : GH} {M : HM} {s b k n : Nat} {l : List PT} {f : Nat → Int32} {Q : QT} (h : BRep O M s b l f) (hq : Q (some (.int (sm (byt (eB (enc l))) (((eB (enc l)).length + 7) / 8) &&& 255))) M k n) : sp_X0_check [.ref b] M k n Q := by
  refine ⟨(eB (enc l)).length, h.1, h.2.2.2.2.2.2.2.1, ?_, ?_⟩
  · have := enc_1808 h.2.2.2.2.2.2.2.2.1.2; omega
  · rw [ckS_r h]; exact hq
