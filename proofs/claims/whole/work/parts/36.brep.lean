/-! what a heap keeps at an address; blocks that hold points -/
def Sm (a : Nat) (M N : HM) : Prop := mK N a = mK M a ∧ mN N a = mN M a ∧ (∀ f, mI N f a = mI M f a) ∧ (∀ f, mL N f a = mL M f a) ∧ (∀ f, mR N f a = mR M f a) ∧ aI N a = aI M a ∧ aL N a = aL M a ∧ aR N a = aR M a
theorem Sm.rf {a : Nat} {M : HM} : Sm a M M := ⟨rfl, rfl, fun _ => rfl, fun _ => rfl, fun _ => rfl, rfl, rfl, rfl⟩
theorem Sm.tr {a : Nat} {M N P : HM} (h : Sm a M N) (g : Sm a N P) : Sm a M P := ⟨g.1.trans h.1, g.2.1.trans h.2.1, fun f => (g.2.2.1 f).trans (h.2.2.1 f), fun f => (g.2.2.2.1 f).trans (h.2.2.2.1 f), fun f => (g.2.2.2.2.1 f).trans (h.2.2.2.2.1 f), g.2.2.2.2.2.1.trans h.2.2.2.2.2.1, g.2.2.2.2.2.2.1.trans h.2.2.2.2.2.2.1, g.2.2.2.2.2.2.2.trans h.2.2.2.2.2.2.2⟩
theorem sm_sI {a c f : Nat} {v : Int32} {M N : HM} (h : a ≠ c) (g : Sm a M N) : Sm a M (sI N f c v) := g.tr ⟨rfl, rfl, fun q => by simp [hmI, h], fun _ => rfl, fun _ => rfl, rfl, rfl, rfl⟩
theorem sm_sL {a c f : Nat} {v : Int64} {M N : HM} (h : a ≠ c) (g : Sm a M N) : Sm a M (sL N f c v) := g.tr ⟨rfl, rfl, fun _ => rfl, fun q => by simp [hmL, h], fun _ => rfl, rfl, rfl, rfl⟩
theorem sm_sR {a c f : Nat} {v : Option Nat} {M N : HM} (h : a ≠ c) (g : Sm a M N) : Sm a M (sR N f c v) := g.tr ⟨rfl, rfl, fun _ => rfl, fun _ => rfl, fun q => by simp [hmR, h], rfl, rfl, rfl⟩
theorem sm_tI {a c i : Nat} {v : Int32} {M N : HM} (h : a ≠ c) (g : Sm a M N) : Sm a M (tI N c i v) := g.tr ⟨rfl, rfl, fun _ => rfl, fun _ => rfl, fun _ => rfl, by funext q; simp [haI, h], rfl, rfl⟩
theorem sm_tL {a c i : Nat} {v : Int64} {M N : HM} (h : a ≠ c) (g : Sm a M N) : Sm a M (tL N c i v) := g.tr ⟨rfl, rfl, fun _ => rfl, fun _ => rfl, fun _ => rfl, rfl, by funext q; simp [haL, h], rfl⟩
theorem sm_tR {a c i : Nat} {v : Option Nat} {M N : HM} (h : a ≠ c) (g : Sm a M N) : Sm a M (tR N c i v) := g.tr ⟨rfl, rfl, fun _ => rfl, fun _ => rfl, fun _ => rfl, rfl, rfl, by funext q; simp [haR, h]⟩
theorem sm_uI {a c : Nat} {y : Nat → Int32} {M N : HM} (h : a ≠ c) (g : Sm a M N) : Sm a M (uI N c y) := g.tr ⟨rfl, rfl, fun _ => rfl, fun _ => rfl, fun _ => rfl, by simp [hmU, h], rfl, rfl⟩
theorem sm_nO {a c q : Nat} {M N : HM} (h : a ≠ q) (g : Sm a M N) : Sm a M (nO N c q) := g.tr ⟨by simp [hmK, h], rfl, fun f => by simp [hmI, h], fun f => by simp [hmL, h], fun f => by simp [hmR, h], rfl, rfl, rfl⟩
theorem sm_nA {a t q z : Nat} {M N : HM} (h : a ≠ q) (g : Sm a M N) : Sm a M (nA N t q z) := g.tr ⟨by simp [hmK, h], by simp [hmN, h], fun _ => rfl, fun _ => rfl, fun _ => rfl, by funext i; simp [haI, h], by funext i; simp [haL, h], by funext i; simp [haR, h]⟩
theorem sm_wrP {a b p : Nat} {bs : List Bool} {M N : HM} (h : a ≠ b) (h2 : a ≠ bt N b) (g : Sm a M N) : Sm a M (wrP N b p bs) := sm_sI h (sm_uI h2 g)
abbrev GH : Type := Nat → Nat × Nat
def zf : Nat → Int32 := fun _ => 0
def tcnt (f : Nat → Int32) : Nat → Nat
  | 0 => 0
  | j + 1 => tcnt f j + if f j = 0 then 0 else 1
def tot (l : List PT) : Int64 := l.foldl (fun s p => s + p.2) 0
def low : List PT → Int64
  | [] => 0
  | p :: l => l.foldl (fun m q => if q.2 < m then q.2 else m) p.2
def high : List PT → Int64
  | [] => 0
  | p :: l => l.foldl (fun m q => if q.2 < m then m else q.2) p.2
def fst1 : List PT → Int32
  | [] => 0
  | p :: _ => p.1
theorem tot_snoc (l : List PT) (p : PT) : tot (l ++ [p]) = tot l + p.2 := by unfold tot; rw [List.foldl_append]; rfl
theorem low_snoc {l : List PT} (p : PT) (h : l ≠ []) : low (l ++ [p]) = if p.2 < low l then p.2 else low l := by
  cases l with
  | nil => exact absurd rfl h
  | cons q l =>
    show (l ++ [p]).foldl _ _ = _
    rw [List.foldl_append]; rfl
theorem high_snoc {l : List PT} (p : PT) (h : l ≠ []) : high (l ++ [p]) = if p.2 < high l then high l else p.2 := by
  cases l with
  | nil => exact absurd rfl h
  | cons q l =>
    show (l ++ [p]).foldl _ _ = _
    rw [List.foldl_append]; rfl
theorem fst1_snoc {l : List PT} (p : PT) (h : l ≠ []) : fst1 (l ++ [p]) = fst1 l := by
  cases l with
  | nil => exact absurd rfl h
  | cons q l => rfl
def byt (bs : List Bool) : Nat → Int32 := wbl (fun _ => 0) 0 bs
theorem wbl_hi : ∀ (bs : List Bool) (g : Nat → Int32) (p k : Nat), p + bs.length ≤ 8 * k → wbl g p bs k = g k
  | [], g, p, k, h => rfl
  | v :: bs, g, p, k, h => by
    have hl : (v :: bs).length = bs.length + 1 := rfl
    rw [wbl, wbl_hi bs _ (p + 1) k (by omega)]
    unfold wb1
    rw [if_neg (fun c => by omega)]
theorem byt_app (a b : List Bool) : wbl (byt a) a.length b = byt (a ++ b) := by
  unfold byt
  rw [wbl_app, Nat.zero_add]
/-- block b holds the points l, turned by the masks f; s: its region -/
def BRep (O : GH) (M : HM) (s b : Nat) (l : List PT) (f : Nat → Int32) : Prop :=
  WB M b ∧ (O b = (s, s) ∧ O (bt M b) = (s, b)) ∧ (∀ z, mR M 1 b = some z → O z = (s, b) ∧ aI M z = f) ∧ (mR M 1 b = none → f = zf) ∧ (∀ k, 226 ≤ k → f k = 0) ∧ (∀ k, aI M (bt M b) k = byt (eB (enc l)) k ^^^ f k) ∧
  mI M 2 b = nI (tcnt f 226) ∧ mI M 3 b = nI (eB (enc l)).length ∧ (mI M 4 b = nI l.length ∧ l.length ≤ 16) ∧ mL M 9 b = tot l ∧ mI M 10 b = eS (enc l) ∧ mI M 12 b = eF (enc l) ∧ mI M 13 b = eW (enc l) ∧
  (l ≠ [] → mI M 5 b = fst1 l ∧ mI M 6 b = eT (enc l) ∧ mL M 11 b = eV (enc l) ∧ mL M 7 b = low l ∧ mL M 8 b = high l)
theorem bt_ne {M : HM} {b : Nat} (h : WB M b) : bt M b ≠ b := fun e => by
  have h1 := h.1
  have h2 := h.2.2.1
  rw [e, h1] at h2
  cases h2
/-- a block's picture stands if nothing of it changes -/
theorem BRep.fr {O O' : GH} {M N : HM} {s b : Nat} {l : List PT} {f : Nat → Int32} (h : BRep O M s b l f) (hb : Sm b M N) (hy : Sm (bt M b) M N) (hz : ∀ z, mR M 1 b = some z → Sm z M N) (ho : ∀ a, mK M a ≠ 0 → O' a = O a) : BRep O' N s b l f := by
  obtain ⟨⟨w1, w2, w3, w4, w5⟩, ⟨o1, o2⟩, h3, h4, h5, h6, h7, h8, h9, h10, h11, h12, h13, h14⟩ := h
  have e1 : mR N 0 b = mR M 0 b := hb.2.2.2.2.1 0
  have e2 : bt N b = bt M b := by unfold bt; rw [e1]
  have e3 : mR N 1 b = mR M 1 b := hb.2.2.2.2.1 1
  have eI := hb.2.2.1
  have eL := hb.2.2.2.1
  refine ⟨⟨hb.1.trans w1, by rw [e1, e2]; exact w2, by rw [e2]; exact hy.1.trans w3, by rw [e2]; exact hy.2.1.trans w4, ?_⟩, ⟨?_, ?_⟩, ?_, ?_, h5, ?_, ?_, ?_, ?_, ?_, ?_, ?_, ?_, ?_⟩
  · intro z hz2
    rw [e3] at hz2
    obtain ⟨q1, q2, q3⟩ := w5 z hz2
    have := hz z hz2
    exact ⟨this.1.trans q1, this.2.1.trans q2, by rw [e2]; exact q3⟩
  · rw [ho b (by rw [w1]; decide)]; exact o1
  · rw [e2, ho _ (by rw [w3]; decide)]; exact o2
  · intro z hz2
    rw [e3] at hz2
    obtain ⟨q1, q2⟩ := h3 z hz2
    have := hz z hz2
    exact ⟨by rw [ho z (by rw [(w5 z hz2).1]; decide)]; exact q1, this.2.2.2.2.2.1.trans q2⟩
  · intro q; rw [e3] at q; exact h4 q
  · intro k; rw [e2, hy.2.2.2.2.2.1]; exact h6 k
  · rw [eI]; exact h7
  · rw [eI]; exact h8
  · rw [eI]; exact h9
  · rw [eL]; exact h10
  · rw [eI]; exact h11
  · rw [eI]; exact h12
  · rw [eI]; exact h13
  · intro hl
    rw [eI, eI, eL, eL, eL]; exact h14 hl
/-- what append leaves, a later point -/
theorem ap_later {O : GH} {M X : HM} {s b p : Nat} {l : List PT} {t : Int32} {v : Int64} (h : BRep O M s b l zf) (hl : l ≠ []) (h16 : l.length < 16) {bs : List Bool} {F W : Int32} (hp : p = (eB (enc l)).length)
    (x1 : mK X = mK M) (x2 : mN X = mN M) (x3 : mR X = mR M) (x4 : mL X = mL M) (x5 : ∀ a, aI X a = if a = bt M b then wbl (aI M (bt M b)) p bs else aI M a)
    (y3 : mI X 3 b = nI (p + bs.length)) (y10 : mI X 10 b = t - mI M 6 b) (y12 : mI X 12 b = F) (y13 : mI X 13 b = W) (yo : ∀ f, f = 2 ∨ f = 4 ∨ f = 5 → mI X f b = mI M f b)
    (e : enc (l ++ [(t, v)]) = (eB (enc l) ++ bs, t, t - eT (enc l), v, F, W)) : BRep O (apE X b t v) s b (l ++ [(t, v)]) zf := by
  obtain ⟨⟨w1, w2, w3, w4, w5⟩, ⟨o1, o2⟩, h3, h4, h5, h6, h7, h8, h9, h10, h11, h12, h13, h14⟩ := h
  obtain ⟨g5, g6, g11, g7, g8⟩ := h14 hl
  have hbt : bt (apE X b t v) b = bt M b := by
    show ((mR X) 0 b).getD 0 = _
    rw [x3]; rfl
  have hK : mK (apE X b t v) = mK M := x1
  have hN : mN (apE X b t v) = mN M := x2
  have hR : mR (apE X b t v) = mR M := x3
  have hA : aI (apE X b t v) = aI X := rfl
  have hbytes : aI M (bt M b) = byt (eB (enc l)) := by
    funext k
    rw [h6 k]
    show _ ^^^ (0 : Int32) = _
    rw [Int32.xor_zero]
  have hlen : (l ++ [(t, v)]).length = l.length + 1 := by simp
  refine ⟨⟨by rw [hK]; exact w1, by rw [hR, hbt]; exact w2, by rw [hK, hbt]; exact w3, by rw [hN, hbt]; exact w4, ?_⟩, ⟨o1, by rw [hbt]; exact o2⟩, ?_, fun _ => rfl, fun _ _ => rfl, ?_, ?_, ?_, ⟨?_, by rw [hlen]; omega⟩, ?_, ?_, ?_, ?_, fun _ => ⟨?_, ?_, ?_, ?_, ?_⟩⟩
  · rw [hR, hK, hN, hbt]; exact w5
  · intro z hz
    rw [hR] at hz
    rw [hA, x5, if_neg (w5 z hz).2.2]
    exact h3 z hz
  · intro k
    rw [hbt, hA, x5, if_pos rfl, hbytes, hp, byt_app, e]
    show _ = _ ^^^ (0 : Int32)
    rw [Int32.xor_zero]; rfl
  · unfold apE
    simp only [hmI, hmL, Nat.reduceEqDiff, false_and, if_false]
    rw [yo 2 (Or.inl rfl)]; exact h7
  · unfold apE
    simp only [hmI, hmL, Nat.reduceEqDiff, false_and, if_false]
    rw [y3, e, hp]
    show _ = nI (eB (enc l) ++ bs).length
    rw [List.length_append]
  · unfold apE
    simp only [hmI, hmL, and_self, if_true]
    rw [yo 4 (Or.inr (Or.inl rfl)), h9.1, hlen, nI_1]
  · unfold apE
    simp only [hmI, hmL, Nat.reduceEqDiff, false_and, and_self, if_false, if_true]
    rw [x4, h10, tot_snoc]
  · unfold apE
    simp only [hmI, hmL, Nat.reduceEqDiff, false_and, if_false]
    rw [y10, e, g6]; rfl
  · unfold apE
    simp only [hmI, hmL, Nat.reduceEqDiff, false_and, if_false]
    rw [y12, e]; rfl
  · unfold apE
    simp only [hmI, hmL, Nat.reduceEqDiff, false_and, if_false]
    rw [y13, e]; rfl
  · unfold apE
    simp only [hmI, hmL, Nat.reduceEqDiff, false_and, if_false]
    rw [yo 5 (Or.inr (Or.inr rfl)), g5, fst1_snoc _ hl]
  · unfold apE
    simp only [hmI, hmL, Nat.reduceEqDiff, false_and, and_self, if_false, if_true]
    rw [e]; rfl
  · unfold apE
    simp only [hmI, hmL, Nat.reduceEqDiff, false_and, and_self, if_false, if_true]
    rw [e]; rfl
  · unfold apE
    simp only [hmI, hmL, Nat.reduceEqDiff, false_and, and_self, if_false, if_true]
    rw [x4, g7, low_snoc _ hl]
  · unfold apE
    simp only [hmI, hmL, Nat.reduceEqDiff, false_and, and_self, if_false, if_true]
    rw [x4, g8, high_snoc _ hl]
/-- what append leaves, the first point -/
theorem ap_first {O : GH} {M X : HM} {s b : Nat} {t : Int32} {v : Int64} (h : BRep O M s b [] zf)
    (x1 : mK X = mK M) (x2 : mN X = mN M) (x3 : mR X = mR M) (x5 : ∀ a, aI X a = if a = bt M b then wbl (aI M (bt M b)) 0 (nb t.toInt64 32 ++ nb v 64) else aI M a)
    (y3 : mI X 3 b = nI 96) (y5 : mI X 5 b = t) (yo : ∀ f, f = 2 ∨ f = 4 ∨ f = 10 ∨ f = 12 ∨ f = 13 → mI X f b = mI M f b) (z7 : mL X 7 b = v) (z8 : mL X 8 b = v) (z9 : mL X 9 b = mL M 9 b) : BRep O (apE X b t v) s b [(t, v)] zf := by
  obtain ⟨⟨w1, w2, w3, w4, w5⟩, ⟨o1, o2⟩, h3, h4, h5, h6, h7, h8, h9, h10, h11, h12, h13, h14⟩ := h
  have hbt : bt (apE X b t v) b = bt M b := by
    show ((mR X) 0 b).getD 0 = _
    rw [x3]; rfl
  have hK : mK (apE X b t v) = mK M := x1
  have hN : mN (apE X b t v) = mN M := x2
  have hR : mR (apE X b t v) = mR M := x3
  have hA : aI (apE X b t v) = aI X := rfl
  have hbytes : aI M (bt M b) = fun _ => 0 := by
    funext k
    rw [h6 k]
    show (0 : Int32) ^^^ (0 : Int32) = _
    rw [Int32.xor_zero]
  have hlt : ¬ v < v := Int64.lt_irrefl
  have e : enc [(t, v)] = (nb t.toInt64 32 ++ nb v 64, t, 0, v, 0, 0) := rfl
  refine ⟨⟨by rw [hK]; exact w1, by rw [hR, hbt]; exact w2, by rw [hK, hbt]; exact w3, by rw [hN, hbt]; exact w4, ?_⟩, ⟨o1, by rw [hbt]; exact o2⟩, ?_, fun _ => rfl, fun _ _ => rfl, ?_, ?_, ?_, ⟨?_, by simp⟩, ?_, ?_, ?_, ?_, fun _ => ⟨?_, ?_, ?_, ?_, ?_⟩⟩
  · rw [hR, hK, hN, hbt]; exact w5
  · intro z hz
    rw [hR] at hz
    rw [hA, x5, if_neg (w5 z hz).2.2]
    exact h3 z hz
  · intro k
    rw [hbt, hA, x5, if_pos rfl, hbytes, e]
    show _ = _ ^^^ (0 : Int32)
    rw [Int32.xor_zero]; rfl
  · unfold apE
    simp only [hmI, hmL, Nat.reduceEqDiff, false_and, if_false]
    rw [yo 2 (by simp)]; exact h7
  · unfold apE
    simp only [hmI, hmL, Nat.reduceEqDiff, false_and, if_false]
    rw [y3, e]
    show _ = nI (nb t.toInt64 32 ++ nb v 64).length
    rw [List.length_append, nb_len, nb_len]
  · unfold apE
    simp only [hmI, hmL, and_self, if_true]
    rw [yo 4 (by simp), h9.1]; rfl
  · unfold apE
    simp only [hmI, hmL, Nat.reduceEqDiff, false_and, and_self, if_false, if_true]
    rw [z9, h10]; rfl
  · unfold apE
    simp only [hmI, hmL, Nat.reduceEqDiff, false_and, if_false]
    rw [yo 10 (by simp), h11, e]; rfl
  · unfold apE
    simp only [hmI, hmL, Nat.reduceEqDiff, false_and, if_false]
    rw [yo 12 (by simp), h12, e]; rfl
  · unfold apE
    simp only [hmI, hmL, Nat.reduceEqDiff, false_and, if_false]
    rw [yo 13 (by simp), h13, e]; rfl
  · unfold apE
    simp only [hmI, hmL, Nat.reduceEqDiff, false_and, if_false]
    rw [y5]; rfl
  · unfold apE
    simp only [hmI, hmL, Nat.reduceEqDiff, false_and, and_self, if_false, if_true]
    rfl
  · unfold apE
    simp only [hmI, hmL, Nat.reduceEqDiff, false_and, and_self, if_false, if_true]
    rfl
  · unfold apE
    simp only [hmI, hmL, Nat.reduceEqDiff, false_and, and_self, if_false, if_true]
    rw [z7, if_neg hlt]; rfl
  · unfold apE
    simp only [hmI, hmL, Nat.reduceEqDiff, false_and, and_self, if_false, if_true]
    rw [z8, if_neg hlt]; rfl
theorem sm_apE {a b : Nat} {t : Int32} {v : Int64} {M N : HM} (h : a ≠ b) (g : Sm a M N) : Sm a M (apE N b t v) := sm_sI h (sm_sL h (sm_sL h (sm_sL h (sm_sL h (sm_sI h g)))))
theorem apEK {b : Nat} {t : Int32} {v : Int64} {N : HM} : mK (apE N b t v) = mK N := rfl
/-- append: a block that holds l holds l and the point -/
theorem apA {O : GH} {M : HM} {s b k n : Nat} {l : List PT} {t : Int32} {v : Int64} {Q : QT} (h : BRep O M s b l zf) (h16 : l.length < 16) (hq : ∀ M', BRep O M' s b (l ++ [(t, v)]) zf → (∀ a, a ≠ b → a ≠ bt M b → Sm a M M') → mK M' = mK M → Q none M' k n) : sp_X0_append [.ref b, .int t, .long v] M k n Q := by
  obtain ⟨w, ⟨o1, o2⟩, h3, h4, h5, h6, h7, h8, h9, h10, h11, h12, h13, h14⟩ := id h
  have hen := enc_len l
  obtain ⟨fa, fc, f1, f2, f3⟩ := FW_enc l
  have hcl : cl (nI fc) = fc := nI_clamp (by omega)
  have hlen : (eB (enc l)).length + 114 ≤ 1808 := by
    by_cases hl : l = []
    · subst hl; decide
    · have := (hen.2 hl).1; omega
  refine ⟨(eB (enc l)).length, w, h8, hlen, by rw [h13, f2, hcl], by rw [h13, f2, hcl]; omega, LT_all _, ?_, ?_, ?_, ?_⟩
  · intro c0
    have hl : l = [] := by
      apply List.length_eq_zero_iff.mp
      rw [h9.1] at c0
      have := (nI_eq (a := l.length) (b := 0) (by omega) (by omega)).mp c0
      exact this
    subst hl
    refine hq _ (ap_first h ?_ ?_ ?_ ?_ ?_ ?_ ?_ ?_ ?_ ?_) ?_ ?_
    · unfold ap0; simp only [hmK, wrPs]
    · unfold ap0; simp only [hmN, wrPs]
    · unfold ap0; simp only [hmR, wrPs]
    · intro a; unfold ap0; simp only [haI]; unfold wrP; simp only [haI, hmU]; rfl
    · unfold ap0; simp only [hmI, wrPs, Nat.reduceEqDiff, false_and, and_self, if_false, if_true]
      rw [List.length_append, nb_len, nb_len]; rfl
    · unfold ap0; simp only [hmI, wrPs, Nat.reduceEqDiff, false_and, and_self, if_false, if_true]
    · intro f hf; unfold ap0
      rcases hf with rfl | rfl | rfl | rfl | rfl <;> simp only [hmI, wrPs, Nat.reduceEqDiff, false_and, if_false]
    · unfold ap0; simp only [hmL, wrPs, Nat.reduceEqDiff, false_and, and_self, if_false, if_true]
    · unfold ap0; simp only [hmL, wrPs, Nat.reduceEqDiff, false_and, and_self, if_false, if_true]
    · unfold ap0; simp only [hmL, wrPs, Nat.reduceEqDiff, false_and, and_self, if_false, if_true]
    · intro a ha hb
      exact sm_apE ha (sm_sL ha (sm_sL ha (sm_sI ha (sm_wrP ha hb Sm.rf))))
    · rw [apEK]; unfold ap0; simp only [hmK, wrPs]
  · intro c0 cx
    have hl : l ≠ [] := fun e => c0 (by rw [h9.1, e]; rfl)
    obtain ⟨g5, g6, g11, g7, g8⟩ := h14 hl
    rw [g11] at cx
    have ev : vbits (eF (enc l)) (eW (enc l)) (v ^^^ eV (enc l)) = nb 0 1 := by unfold vbits; rw [if_pos cx]
    refine hq _ (ap_later (p := (eB (enc l)).length) (F := eF (enc l)) (W := eW (enc l)) (bs := apS M b t ++ nb 0 1) h hl h16 rfl ?_ ?_ ?_ ?_ ?_ ?_ ?_ ?_ ?_ ?_ ?_) ?_ ?_
    · simp only [hmK, wrPs]
    · simp only [hmN, wrPs]
    · simp only [hmR, wrPs]
    · simp only [hmL, wrPs]
    · intro a; simp only [haI]; unfold wrP; simp only [haI, hmU]
    · simp only [hmI, wrPs, Nat.reduceEqDiff, false_and, and_self, if_false, if_true]
    · simp only [hmI, wrPs, Nat.reduceEqDiff, false_and, and_self, if_false, if_true]
    · simp only [hmI, wrPs, Nat.reduceEqDiff, false_and, and_self, if_false, if_true]; exact h12
    · simp only [hmI, wrPs, Nat.reduceEqDiff, false_and, and_self, if_false, if_true]; exact h13
    · intro f hf
      rcases hf with rfl | rfl | rfl <;> simp only [hmI, wrPs, Nat.reduceEqDiff, false_and, if_false]
    · rw [enc_snoc _ hl]; unfold enN apS
      rw [ev, g6, h11]; unfold vF vW; simp only [cx, if_true]
    · intro a ha hb
      exact sm_apE ha (sm_sI ha (sm_wrP ha hb Sm.rf))
    · rw [apEK]; simp only [hmK, wrPs]
  · intro c0 cx cf
    have hl : l ≠ [] := fun e => c0 (by rw [h9.1, e]; rfl)
    obtain ⟨g5, g6, g11, g7, g8⟩ := h14 hl
    unfold vfit at cf
    rw [g11, h12, h13] at cf
    rw [g11] at cx
    refine hq _ (ap_later (p := (eB (enc l)).length) (F := eF (enc l)) (W := eW (enc l)) (bs := apS M b t ++ vcb (mI M 12 b) (mI M 13 b) (v ^^^ mL M 11 b)) h hl h16 rfl ?_ ?_ ?_ ?_ ?_ ?_ ?_ ?_ ?_ ?_ ?_) ?_ ?_
    · simp only [hmK, wrPs]
    · simp only [hmN, wrPs]
    · simp only [hmR, wrPs]
    · simp only [hmL, wrPs]
    · intro a; simp only [haI]; unfold wrP; simp only [haI, hmU]
    · simp only [hmI, wrPs, Nat.reduceEqDiff, false_and, and_self, if_false, if_true]
    · simp only [hmI, wrPs, Nat.reduceEqDiff, false_and, and_self, if_false, if_true]
    · simp only [hmI, wrPs, Nat.reduceEqDiff, false_and, and_self, if_false, if_true]; exact h12
    · simp only [hmI, wrPs, Nat.reduceEqDiff, false_and, and_self, if_false, if_true]; exact h13
    · intro f hf
      rcases hf with rfl | rfl | rfl <;> simp only [hmI, wrPs, Nat.reduceEqDiff, false_and, if_false]
    · rw [enc_snoc _ hl]; unfold enN apS vbits vF vW
      rw [g6, h11, g11, h12, h13]; simp only [cx, cf, if_false, if_true, and_self, not_false_eq_true]
    · intro a ha hb
      exact sm_apE ha (sm_sI ha (sm_wrP ha hb Sm.rf))
    · rw [apEK]; simp only [hmK, wrPs]
  · intro c0 cx cf
    have hl : l ≠ [] := fun e => c0 (by rw [h9.1, e]; rfl)
    obtain ⟨g5, g6, g11, g7, g8⟩ := h14 hl
    unfold vfit at cf
    rw [g11, h12, h13] at cf
    rw [g11] at cx
    refine hq _ (ap_later (p := (eB (enc l)).length) (F := nlzL (v ^^^ mL M 11 b)) (W := 64 - ntzL (v ^^^ mL M 11 b) - nlzL (v ^^^ mL M 11 b)) (bs := apS M b t ++ vcn (v ^^^ mL M 11 b)) h hl h16 rfl ?_ ?_ ?_ ?_ ?_ ?_ ?_ ?_ ?_ ?_ ?_) ?_ ?_
    · simp only [hmK, wrPs]
    · simp only [hmN, wrPs]
    · simp only [hmR, wrPs]
    · simp only [hmL, wrPs]
    · intro a; simp only [haI]; unfold wrP; simp only [haI, hmU]
    · simp only [hmI, wrPs, Nat.reduceEqDiff, false_and, and_self, if_false, if_true]
    · simp only [hmI, wrPs, Nat.reduceEqDiff, false_and, and_self, if_false, if_true]
    · simp only [hmI, wrPs, Nat.reduceEqDiff, false_and, and_self, if_false, if_true]
    · simp only [hmI, wrPs, Nat.reduceEqDiff, false_and, and_self, if_false, if_true]
    · intro f hf
      rcases hf with rfl | rfl | rfl <;> simp only [hmI, wrPs, Nat.reduceEqDiff, false_and, if_false]
    · rw [enc_snoc _ hl]; unfold enN apS vbits vF vW
      rw [g6, h11, g11]; simp only [cx, cf, if_false]
    · intro a ha hb
      exact sm_apE ha (sm_sI ha (sm_sI ha (sm_sI ha (sm_wrP ha hb Sm.rf))))
    · rw [apEK]; simp only [hmK, wrPs]
