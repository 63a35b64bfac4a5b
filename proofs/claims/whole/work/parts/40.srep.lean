/-! a series that holds labels, spans, blocks, late points -/
def SPK (M : HM) (p : Nat) (x : SPN) : Prop := mI M 160 p = x.1 ∧ mI M 161 p = x.2.1 ∧ mI M 162 p = x.2.2.1 ∧ mL M 163 p = x.2.2.2.1 ∧ mL M 164 p = x.2.2.2.2.1 ∧ mL M 165 p = x.2.2.2.2.2.1 ∧ mL M 166 p = x.2.2.2.2.2.2.1 ∧ mL M 167 p = x.2.2.2.2.2.2.2
def SO (O : GH) (M : HM) (s : Nat) : Prop := O s = (s, s) ∧ O (lb M s) = (s, s) ∧ O (sps M s) = (s, s) ∧ O (bks M s) = (s, s) ∧ O (ltt M s) = (s, s) ∧ O (ltv M s) = (s, s) ∧ lb M s ≠ ltt M s
def SPr (O : GH) (M : HM) (s : Nat) (sp : List SPN) : Prop := mI M 131 s = nI sp.length ∧ Row (aR M (sps M s)) 60 (fun p => mK M p = 6 ∧ O p = (s, s)) (SPK M) sp
def BKr (O : GH) (M : HM) (s : Nat) (bk : List BLK) : Prop := mI M 133 s = nI bk.length ∧ Row (aR M (bks M s)) 300 (fun b => ∃ l f, BRep O M s b l f) (fun b x => BRep O M s b x.1 x.2) bk
def LTr (M : HM) (s : Nat) (lt : List PT) : Prop := mI M 136 s = nI lt.length ∧ lt.length ≤ 40 ∧ rdf (fun i => (aI M (ltt M s) i, aL M (ltv M s) i)) 0 lt.length = lt
def HDr (M : HM) (s : Nat) (kd : Int32) (lab : Nat → Int32) : Prop := mI M 128 s = kd ∧ ∀ i, i < 8 → aI M (lb M s) i = lab i
def SRep (O : GH) (M : HM) (s : Nat) (kd : Int32) (lab : Nat → Int32) (sp : List SPN) (bk : List BLK) (lt : List PT) : Prop := (SR M s ∧ SO O M s) ∧ HDr M s kd lab ∧ SPr O M s sp ∧ BKr O M s bk ∧ LTr M s lt
theorem SPK.fr {M N : HM} {p : Nat} {x : SPN} (h : SPK M p x) (hs : Sm p M N) : SPK N p x := by
  obtain ⟨h1, h2, h3, h4, h5, h6, h7, h8⟩ := h
  obtain ⟨-, -, eI, eL, -⟩ := hs
  exact ⟨(eI _).trans h1, (eI _).trans h2, (eI _).trans h3, (eL _).trans h4, (eL _).trans h5, (eL _).trans h6, (eL _).trans h7, (eL _).trans h8⟩
theorem SRep.base {S : Nat → Nat × Nat → Prop} {O O' : GH} {M N : HM} {s : Nat} {kd : Int32} {lab : Nat → Int32} {sp : List SPN} {bk : List BLK} {lt : List PT} (h : SRep O M s kd lab sp bk lt) (hF : Fr S O O' M N) (hS : ∀ a, mK M a ≠ 1 → O a = (s, s) → ¬ S a (s, s)) :
    (SR N s ∧ SO O' N s) ∧ HDr N s kd lab ∧ SPr O' N s sp ∧ LTr N s lt ∧ mI N 133 s = mI M 133 s ∧ bks N s = bks M s ∧ aR N (bks M s) = aR M (bks M s) := by
  obtain ⟨⟨⟨k0, ⟨a1, a2, a3⟩, ⟨b1, b2, b3⟩, ⟨c1, c2, c3⟩, ⟨d1, d2, d3⟩, ⟨e1, e2, e3⟩⟩, ⟨o0, o1, o2, o3, o4, o5, o6⟩⟩, ⟨hk, hl⟩, ⟨hs1, hs2⟩, hb, ⟨ht1, ht2, ht3⟩⟩ := h
  have get : ∀ a, mK M a ≠ 0 → mK M a ≠ 1 → O a = (s, s) → Sm a M N := fun a h1 h2 h3 => (hF a h1).2.2 (by rw [h3]; exact hS a h2 h3)
  have kO : ∀ a, mK M a ≠ 0 → O a = (s, s) → O' a = (s, s) := fun a h1 h3 => (hF a h1).2.1.trans h3
  have m0 := get s (by rw [k0]; decide) (by rw [k0]; decide) o0
  have m1 := get _ (by rw [a2]; decide) (by rw [a2]; decide) o1
  have m2 := get _ (by rw [b2]; decide) (by rw [b2]; decide) o2
  have m3 := get _ (by rw [c2]; decide) (by rw [c2]; decide) o3
  have m4 := get _ (by rw [d2]; decide) (by rw [d2]; decide) o4
  have m5 := get _ (by rw [e2]; decide) (by rw [e2]; decide) o5
  have eR := m0.2.2.2.2.1
  have eI := m0.2.2.1
  have q1 : lb N s = lb M s := by unfold lb; rw [eR]
  have q2 : sps N s = sps M s := by unfold sps; rw [eR]
  have q3 : bks N s = bks M s := by unfold bks; rw [eR]
  have q4 : ltt N s = ltt M s := by unfold ltt; rw [eR]
  have q5 : ltv N s = ltv M s := by unfold ltv; rw [eR]
  refine ⟨⟨⟨m0.1.trans k0, ⟨?_, ?_, ?_⟩, ⟨?_, ?_, ?_⟩, ⟨?_, ?_, ?_⟩, ⟨?_, ?_, ?_⟩, ⟨?_, ?_, ?_⟩⟩, ⟨?_, ?_, ?_, ?_, ?_, ?_, ?_⟩⟩, ⟨?_, ?_⟩, ⟨?_, ?_⟩, ⟨?_, ht2, ?_⟩, eI _, q3, m3.2.2.2.2.2.2.2⟩
  · rw [eR, q1]; exact a1
  · rw [q1, m1.1]; exact a2
  · rw [q1, m1.2.1]; exact a3
  · rw [eR, q2]; exact b1
  · rw [q2, m2.1]; exact b2
  · rw [q2, m2.2.1]; exact b3
  · rw [eR, q3]; exact c1
  · rw [q3, m3.1]; exact c2
  · rw [q3, m3.2.1]; exact c3
  · rw [eR, q4]; exact d1
  · rw [q4, m4.1]; exact d2
  · rw [q4, m4.2.1]; exact d3
  · rw [eR, q5]; exact e1
  · rw [q5, m5.1]; exact e2
  · rw [q5, m5.2.1]; exact e3
  · exact kO s (by rw [k0]; decide) o0
  · rw [q1]; exact kO _ (by rw [a2]; decide) o1
  · rw [q2]; exact kO _ (by rw [b2]; decide) o2
  · rw [q3]; exact kO _ (by rw [c2]; decide) o3
  · rw [q4]; exact kO _ (by rw [d2]; decide) o4
  · rw [q5]; exact kO _ (by rw [e2]; decide) o5
  · rw [q1, q4]; exact o6
  · rw [eI]; exact hk
  · intro i hi; rw [q1, m1.2.2.2.2.2.1]; exact hl i hi
  · rw [eI]; exact hs1
  · rw [q2, m2.2.2.2.2.2.2.2]
    refine hs2.mono (fun i p _ _ hp => ?_) (fun i p x hi hp hx => ?_)
    · exact ⟨(hF p (by rw [hp.1]; decide)).1.trans hp.1, kO p (by rw [hp.1]; decide) hp.2⟩
    · have hp := hs2.2.1 i p hi hp
      exact hx.fr (get p (by rw [hp.1]; decide) (by rw [hp.1]; decide) hp.2)
  · rw [eI]; exact ht1
  · rw [q4, q5, m4.2.2.2.2.2.1, m5.2.2.2.2.2.2.1]; exact ht3
theorem SRep.frm {S : Nat → Nat × Nat → Prop} {O O' : GH} {M N : HM} {s : Nat} {kd : Int32} {lab : Nat → Int32} {sp : List SPN} {bk : List BLK} {lt : List PT} (h : SRep O M s kd lab sp bk lt) (hF : Fr S O O' M N) (hS : ∀ a o, o.1 = s → ¬ S a o) : SRep O' N s kd lab sp bk lt := by
  obtain ⟨h1, h2, h3, h4, h5, h6, h7⟩ := h.base hF (fun a _ _ => hS a _ rfl)
  refine ⟨h1, h2, h3, ⟨?_, ?_⟩, h4⟩
  · rw [h5]; exact h.2.2.2.1.1
  · rw [h6, h7]
    refine h.2.2.2.1.2.mono (fun i b _ _ hb => ?_) (fun i b x _ _ hx => ?_)
    · obtain ⟨l, f, hb⟩ := hb
      exact ⟨l, f, hb.frm hF (hS _ _ rfl) (fun a => hS _ _ rfl)⟩
    · exact hx.frm hF (hS _ _ rfl) (fun a => hS _ _ rfl)
theorem BRep.K {O : GH} {M : HM} {s b : Nat} {l : List PT} {f : Nat → Int32} (h : BRep O M s b l f) : mK M b = 1 := h.1.1
/-- one block changes -/
theorem SRep.blk {O O' : GH} {M N : HM} {s i b : Nat} {kd : Int32} {lab : Nat → Int32} {sp : List SPN} {bk : List BLK} {lt : List PT} {l : List PT} {f : Nat → Int32} (h : SRep O M s kd lab sp bk lt) (hi : i < 300) (hb : aR M (bks M s) i = some b) (hF : Fr (Sb s b) O O' M N) (hB : BRep O' N s b l f) : SRep O' N s kd lab sp (bk.set i (l, f)) lt := by
  obtain ⟨l0, f0, hB0⟩ := h.2.2.2.1.2.2.1 i b hi hb
  have hbk := hB0.K
  have hbs : b ≠ s := fun e => by rw [e, h.1.1.1] at hbk; cases hbk
  obtain ⟨h1, h2, h3, h4, h5, h6, h7⟩ := h.base hF (fun a ha _ hs => hs.elim (fun e => ha (by rw [e]; exact hbk)) (fun e => hbs (congrArg Prod.snd e).symm))
  refine ⟨h1, h2, h3, ⟨?_, ?_⟩, h4⟩
  · rw [h5, List.length_set]; exact h.2.2.2.1.1
  · rw [h6, h7]
    refine h.2.2.2.1.2.upd hb hi (fun a ha hp => ?_) (fun a x ha _ hx => hx.other hF ha hbs hbk) ⟨l, f, hB⟩ hB
    obtain ⟨l1, f1, hp⟩ := hp
    exact ⟨l1, f1, hp.other hF ha hbs hbk⟩
/-- fields of the series itself -/
theorem brs {O : GH} {M : HM} {s b f a : Nat} {v : Int32} {l : List PT} {g : Nat → Int32} (hf : 14 ≤ f) : BRep O (sI M f a v) s b l g = BRep O M s b l g := by
  have e : ∀ c, c < 14 → ∀ x, mI (sI M f a v) c x = mI M c x := fun c hc x => by
    simp only [hmI]; rw [if_neg (fun z => by omega)]
  unfold BRep
  simp only [wbs, bts, hmR, haI, hmL, e _ (show 2 < 14 by decide), e _ (show 3 < 14 by decide), e _ (show 4 < 14 by decide), e _ (show 10 < 14 by decide), e _ (show 12 < 14 by decide), e _ (show 13 < 14 by decide), e _ (show 5 < 14 by decide), e _ (show 6 < 14 by decide)]
theorem sks {M : HM} {f a p : Nat} {v : Int32} {x : SPN} (hf : f < 160) : SPK (sI M f a v) p x = SPK M p x := by
  have e : ∀ c, 160 ≤ c → ∀ x, mI (sI M f a v) c x = mI M c x := fun c hc x => by
    simp only [hmI]; rw [if_neg (fun z => by omega)]
  unfold SPK
  simp only [hmL, e _ (show 160 ≤ 160 by decide), e _ (show 160 ≤ 161 by decide), e _ (show 160 ≤ 162 by decide)]
theorem fr_sI {O : GH} {M N : HM} {S : Nat → Nat × Nat → Prop} {O0 : GH} {f a : Nat} {v : Int32} (hF : Fr S O0 O M N) (ha : S a (O a)) (hk : mK N a ≠ 0 → mK M a ≠ 0) : Fr S O0 O M (sI N f a v) := fun x hx => by
  obtain ⟨h1, h2, h3⟩ := hF x hx
  exact ⟨h1, h2, fun hs => sm_sI (fun e => hs (by rw [e] at h2 ⊢; rw [← h2]; exact ha)) (h3 hs)⟩
/-- two arrays of the series change -/
def ArX (M U : HM) (x y : Nat) : Prop := mK U = mK M ∧ mN U = mN M ∧ mI U = mI M ∧ mL U = mL M ∧ mR U = mR M ∧ ∀ a, a ≠ x → a ≠ y → aI U a = aI M a ∧ aL U a = aL M a ∧ aR U a = aR M a
theorem ArX.rf {M : HM} {x y : Nat} : ArX M M x y := ⟨rfl, rfl, rfl, rfl, rfl, fun _ _ _ => ⟨rfl, rfl, rfl⟩⟩
theorem ArX.tI {M U : HM} {x y a i : Nat} {v : Int32} (h : ArX M U x y) (ha : a = x ∨ a = y) : ArX M (tI U a i v) x y :=
  ⟨h.1, h.2.1, h.2.2.1, h.2.2.2.1, h.2.2.2.2.1, fun b h1 h2 => by
    obtain ⟨g1, g2, g3⟩ := h.2.2.2.2.2 b h1 h2
    refine ⟨?_, g2, g3⟩
    funext j
    simp only [haI]
    rw [if_neg (fun z => by rcases ha with rfl | rfl <;> simp_all)]
    rw [g1]⟩
theorem ArX.tL {M U : HM} {x y a i : Nat} {v : Int64} (h : ArX M U x y) (ha : a = x ∨ a = y) : ArX M (tL U a i v) x y :=
  ⟨h.1, h.2.1, h.2.2.1, h.2.2.2.1, h.2.2.2.2.1, fun b h1 h2 => by
    obtain ⟨g1, g2, g3⟩ := h.2.2.2.2.2 b h1 h2
    refine ⟨g1, ?_, g3⟩
    funext j
    simp only [haL]
    rw [if_neg (fun z => by rcases ha with rfl | rfl <;> simp_all)]
    rw [g2]⟩
theorem ArX.tR {M U : HM} {x y a i : Nat} {v : Option Nat} (h : ArX M U x y) (ha : a = x ∨ a = y) : ArX M (tR U a i v) x y :=
  ⟨h.1, h.2.1, h.2.2.1, h.2.2.2.1, h.2.2.2.2.1, fun b h1 h2 => by
    obtain ⟨g1, g2, g3⟩ := h.2.2.2.2.2 b h1 h2
    refine ⟨g1, g2, ?_⟩
    funext j
    simp only [haR]
    rw [if_neg (fun z => by rcases ha with rfl | rfl <;> simp_all)]
    rw [g3]⟩
theorem ArX.sm {M U : HM} {x y a : Nat} (h : ArX M U x y) (h1 : a ≠ x) (h2 : a ≠ y) : Sm a M U := by
  obtain ⟨e1, e2, e3, e4, e5, e6⟩ := h
  obtain ⟨g1, g2, g3⟩ := e6 a h1 h2
  exact ⟨by rw [e1], by rw [e2], fun f => by rw [e3], fun f => by rw [e4], fun f => by rw [e5], g1, g2, g3⟩
theorem ArX.fr {O : GH} {M U : HM} {x y s : Nat} (h : ArX M U x y) (hx : (O x).1 = s) (hy : (O y).1 = s) : Fr (Ss s) O O M U :=
  fr_K h.1 (fun a ha => h.sm (fun e => ha (by rw [e]; exact hx)) (fun e => ha (by rw [e]; exact hy)))
theorem BRep.arx {O : GH} {M U : HM} {s b x y : Nat} {l : List PT} {f : Nat → Int32} (h : BRep O M s b l f) (hX : ArX M U x y) (hx : O x = (s, s)) (hy : O y = (s, s)) (kx : mK M x ≠ 1) (ky : mK M y ≠ 1) (hb : b ≠ s) : BRep O U s b l f := by
  obtain ⟨⟨w1, w2, w3, w4, w5⟩, ⟨o1, o2⟩, h3, -⟩ := id h
  have ne : ∀ a, O a = (s, b) → a ≠ x ∧ a ≠ y := fun a ha => ⟨fun e => hb (by rw [e, hx] at ha; exact (congrArg Prod.snd ha).symm), fun e => hb (by rw [e, hy] at ha; exact (congrArg Prod.snd ha).symm)⟩
  refine h.fr ?_ ?_ ?_ (fun a ha => rfl)
  · exact hX.sm (fun e => kx (by rw [← e]; exact w1)) (fun e => ky (by rw [← e]; exact w1))
  · exact hX.sm (ne _ o2).1 (ne _ o2).2
  · intro z hz
    exact hX.sm (ne z (h3 z hz).1).1 (ne z (h3 z hz).1).2
theorem SRep.arx {O : GH} {M U : HM} {s x y : Nat} {kd : Int32} {lab : Nat → Int32} {sp : List SPN} {bk : List BLK} {lt : List PT} (h : SRep O M s kd lab sp bk lt) (hX : ArX M U x y) (hx : O x = (s, s)) (hy : O y = (s, s)) (kx : mK M x ≠ 1) (ky : mK M y ≠ 1) :
    (SR U s ∧ SO O U s) ∧ (lb U s = lb M s ∧ sps U s = sps M s ∧ bks U s = bks M s ∧ ltt U s = ltt M s ∧ ltv U s = ltv M s) ∧ ∀ b l f, BRep O M s b l f → BRep O U s b l f := by
  obtain ⟨e1, e2, e3, e4, e5, e6⟩ := id hX
  have q1 : lb U s = lb M s := by unfold lb; rw [e5]
  have q2 : sps U s = sps M s := by unfold sps; rw [e5]
  have q3 : bks U s = bks M s := by unfold bks; rw [e5]
  have q4 : ltt U s = ltt M s := by unfold ltt; rw [e5]
  have q5 : ltv U s = ltv M s := by unfold ltv; rw [e5]
  refine ⟨⟨?_, ?_⟩, ⟨q1, q2, q3, q4, q5⟩, fun b l f hb => ?_⟩
  · unfold SR; rw [q1, q2, q3, q4, q5, e1, e2, e5]; exact h.1.1
  · unfold SO; rw [q1, q2, q3, q4, q5]; exact h.1.2
  · exact hb.arx hX hx hy kx ky (fun e => by have := hb.K; rw [e, h.1.1.1] at this; cases this)
theorem SRep.r133 {O : GH} {M U : HM} {s : Nat} {kd : Int32} {lab : Nat → Int32} {sp sp' : List SPN} {bk bk' : List BLK} {lt lt' : List PT} (h : SRep O M s kd lab sp bk lt) (hX : ArX M U (bks M s) (bks M s)) (hr : Row (aR U (bks M s)) 300 (fun b => ∃ l f, BRep O M s b l f) (fun b x => BRep O M s b x.1 x.2) bk') : SRep O (sI U 133 s (nI bk'.length)) s kd lab sp bk' lt ∧ Fr (Ss s) O O M (sI U 133 s (nI bk'.length)) := by
  obtain ⟨⟨⟨k0, ⟨a1, a2, a3⟩, ⟨b1, b2, b3⟩, ⟨c1, c2, c3⟩, ⟨d1, d2, d3⟩, ⟨z1, z2, z3⟩⟩, ⟨o0, o1, o2, o3, o4, o5, o6⟩⟩, ⟨hk, hl⟩, ⟨hs1, hs2⟩, ⟨hb1, hb2⟩, ⟨ht1, ht2, ht3⟩⟩ := id h
  obtain ⟨e1, e2, e3, e4, e5, e6⟩ := id hX
  obtain ⟨g1, ⟨q1, q2, q3, q4, q5⟩, g2⟩ := h.arx hX o3 o3 (by rw [c2]; decide) (by rw [c2]; decide)
  have ne : ∀ a c, mK M a ≠ mK M c → a ≠ c := fun a c h e => h (by rw [e])
  refine ⟨⟨g1, ⟨?_, fun i hi => ?_⟩, ⟨?_, ?_⟩, ⟨?_, ?_⟩, ⟨?_, ht2, ?_⟩⟩, ?_⟩
  · simp only [hmI, Nat.reduceEqDiff, false_and, if_false]; rw [e3]; exact hk
  · show aI U (lb U s) i = lab i
    rw [q1, (e6 _ (ne _ _ (by rw [a2, c2]; decide)) (ne _ _ (by rw [a2, c2]; decide))).1]; exact hl i hi
  · simp only [hmI, Nat.reduceEqDiff, false_and, if_false]; rw [e3]; exact hs1
  · show Row (aR U (sps U s)) 60 _ _ sp
    rw [q2, (e6 _ (ne _ _ (by rw [b2, c2]; decide)) (ne _ _ (by rw [b2, c2]; decide))).2.2]
    exact hs2.mono (fun _ p _ _ hp => by show mK U p = 6 ∧ _; rw [e1]; exact hp) (fun _ p x _ _ hx => by rw [sks (by decide)]; unfold SPK; rw [e3, e4]; exact hx)
  · simp only [hmI, and_self, if_true]
  · show Row (aR U (bks U s)) 300 _ _ bk'
    rw [q3]
    exact hr.mono (fun _ _ _ _ ⟨l, f, q⟩ => ⟨l, f, by rw [brs (by decide)]; exact g2 _ _ _ q⟩) (fun _ _ _ _ _ q => by rw [brs (by decide)]; exact g2 _ _ _ q)
  · simp only [hmI, Nat.reduceEqDiff, false_and, if_false]; rw [e3]; exact ht1
  · show rdf (fun i => (aI U (ltt U s) i, aL U (ltv U s) i)) 0 lt.length = lt
    rw [q4, q5, (e6 _ (ne _ _ (by rw [d2, c2]; decide)) (ne _ _ (by rw [d2, c2]; decide))).1, (e6 _ (ne _ _ (by rw [z2, c2]; decide)) (ne _ _ (by rw [z2, c2]; decide))).2.1]; exact ht3
  · exact fr_sI (hX.fr (by rw [o3]) (by rw [o3])) (by show (O s).1 = s; rw [o0]) (by rw [e1]; exact id)
theorem SRep.r131 {O : GH} {M U : HM} {s : Nat} {kd : Int32} {lab : Nat → Int32} {sp sp' : List SPN} {bk bk' : List BLK} {lt lt' : List PT} (h : SRep O M s kd lab sp bk lt) (hX : ArX M U (sps M s) (sps M s)) (hr : Row (aR U (sps M s)) 60 (fun p => mK M p = 6 ∧ O p = (s, s)) (SPK M) sp') : SRep O (sI U 131 s (nI sp'.length)) s kd lab sp' bk lt ∧ Fr (Ss s) O O M (sI U 131 s (nI sp'.length)) := by
  obtain ⟨⟨⟨k0, ⟨a1, a2, a3⟩, ⟨b1, b2, b3⟩, ⟨c1, c2, c3⟩, ⟨d1, d2, d3⟩, ⟨z1, z2, z3⟩⟩, ⟨o0, o1, o2, o3, o4, o5, o6⟩⟩, ⟨hk, hl⟩, ⟨hs1, hs2⟩, ⟨hb1, hb2⟩, ⟨ht1, ht2, ht3⟩⟩ := id h
  obtain ⟨e1, e2, e3, e4, e5, e6⟩ := id hX
  obtain ⟨g1, ⟨q1, q2, q3, q4, q5⟩, g2⟩ := h.arx hX o2 o2 (by rw [b2]; decide) (by rw [b2]; decide)
  have ne : ∀ a c, mK M a ≠ mK M c → a ≠ c := fun a c h e => h (by rw [e])
  refine ⟨⟨g1, ⟨?_, fun i hi => ?_⟩, ⟨?_, ?_⟩, ⟨?_, ?_⟩, ⟨?_, ht2, ?_⟩⟩, ?_⟩
  · simp only [hmI, Nat.reduceEqDiff, false_and, if_false]; rw [e3]; exact hk
  · show aI U (lb U s) i = lab i
    rw [q1, (e6 _ (ne _ _ (by rw [a2, b2]; decide)) (ne _ _ (by rw [a2, b2]; decide))).1]; exact hl i hi
  · simp only [hmI, and_self, if_true]
  · show Row (aR U (sps U s)) 60 _ _ sp'
    rw [q2]
    exact hr.mono (fun _ p _ _ hp => by show mK U p = 6 ∧ _; rw [e1]; exact hp) (fun _ p x _ _ hx => by rw [sks (by decide)]; unfold SPK; rw [e3, e4]; exact hx)
  · simp only [hmI, Nat.reduceEqDiff, false_and, if_false]; rw [e3]; exact hb1
  · show Row (aR U (bks U s)) 300 _ _ bk
    rw [q3, (e6 _ (ne _ _ (by rw [c2, b2]; decide)) (ne _ _ (by rw [c2, b2]; decide))).2.2]
    exact hb2.mono (fun _ _ _ _ ⟨l, f, q⟩ => ⟨l, f, by rw [brs (by decide)]; exact g2 _ _ _ q⟩) (fun _ _ _ _ _ q => by rw [brs (by decide)]; exact g2 _ _ _ q)
  · simp only [hmI, Nat.reduceEqDiff, false_and, if_false]; rw [e3]; exact ht1
  · show rdf (fun i => (aI U (ltt U s) i, aL U (ltv U s) i)) 0 lt.length = lt
    rw [q4, q5, (e6 _ (ne _ _ (by rw [d2, b2]; decide)) (ne _ _ (by rw [d2, b2]; decide))).1, (e6 _ (ne _ _ (by rw [z2, b2]; decide)) (ne _ _ (by rw [z2, b2]; decide))).2.1]; exact ht3
  · exact fr_sI (hX.fr (by rw [o2]) (by rw [o2])) (by show (O s).1 = s; rw [o0]) (by rw [e1]; exact id)
theorem SRep.r136 {O : GH} {M U : HM} {s : Nat} {kd : Int32} {lab : Nat → Int32} {sp sp' : List SPN} {bk bk' : List BLK} {lt lt' : List PT} (h : SRep O M s kd lab sp bk lt) (hX : ArX M U (ltt M s) (ltv M s)) (h40 : lt'.length ≤ 40) (hr : rdf (fun i => (aI U (ltt M s) i, aL U (ltv M s) i)) 0 lt'.length = lt') : SRep O (sI U 136 s (nI lt'.length)) s kd lab sp bk lt' ∧ Fr (Ss s) O O M (sI U 136 s (nI lt'.length)) := by
  obtain ⟨⟨⟨k0, ⟨a1, a2, a3⟩, ⟨b1, b2, b3⟩, ⟨c1, c2, c3⟩, ⟨d1, d2, d3⟩, ⟨z1, z2, z3⟩⟩, ⟨o0, o1, o2, o3, o4, o5, o6⟩⟩, ⟨hk, hl⟩, ⟨hs1, hs2⟩, ⟨hb1, hb2⟩, ⟨ht1, ht2, ht3⟩⟩ := id h
  obtain ⟨e1, e2, e3, e4, e5, e6⟩ := id hX
  obtain ⟨g1, ⟨q1, q2, q3, q4, q5⟩, g2⟩ := h.arx hX o4 o5 (by rw [d2]; decide) (by rw [z2]; decide)
  have ne : ∀ a c, mK M a ≠ mK M c → a ≠ c := fun a c h e => h (by rw [e])
  refine ⟨⟨g1, ⟨?_, fun i hi => ?_⟩, ⟨?_, ?_⟩, ⟨?_, ?_⟩, ⟨?_, h40, ?_⟩⟩, ?_⟩
  · simp only [hmI, Nat.reduceEqDiff, false_and, if_false]; rw [e3]; exact hk
  · show aI U (lb U s) i = lab i
    rw [q1, (e6 _ o6 (ne _ _ (by rw [a2, z2]; decide))).1]; exact hl i hi
  · simp only [hmI, Nat.reduceEqDiff, false_and, if_false]; rw [e3]; exact hs1
  · show Row (aR U (sps U s)) 60 _ _ sp
    rw [q2, (e6 _ (ne _ _ (by rw [b2, d2]; decide)) (ne _ _ (by rw [b2, z2]; decide))).2.2]
    exact hs2.mono (fun _ p _ _ hp => by show mK U p = 6 ∧ _; rw [e1]; exact hp) (fun _ p x _ _ hx => by rw [sks (by decide)]; unfold SPK; rw [e3, e4]; exact hx)
  · simp only [hmI, Nat.reduceEqDiff, false_and, if_false]; rw [e3]; exact hb1
  · show Row (aR U (bks U s)) 300 _ _ bk
    rw [q3, (e6 _ (ne _ _ (by rw [c2, d2]; decide)) (ne _ _ (by rw [c2, z2]; decide))).2.2]
    exact hb2.mono (fun _ _ _ _ ⟨l, f, q⟩ => ⟨l, f, by rw [brs (by decide)]; exact g2 _ _ _ q⟩) (fun _ _ _ _ _ q => by rw [brs (by decide)]; exact g2 _ _ _ q)
  · simp only [hmI, and_self, if_true]
  · show rdf (fun i => (aI U (ltt U s) i, aL U (ltv U s) i)) 0 lt'.length = lt'
    rw [q4, q5]; exact hr
  · exact fr_sI (hX.fr (by rw [o4]) (by rw [o5])) (by show (O s).1 = s; rw [o0]) (by rw [e1]; exact id)
