/-! a reader that has read the points l -/
def RdAt (M : HM) (r : Nat) (l : List PT) : Prop := RB M r (eB (enc l)).length ∧ mI M 99 r = eS (enc l) ∧ mI M 101 r = eF (enc l) ∧ mI M 102 r = eW (enc l) ∧ (l ≠ [] → mI M 98 r = eT (enc l) ∧ mL M 100 r = eV (enc l))
theorem rsl_le (g : Nat → Int32) (p : Nat) : rsl g p ≤ 4 := by unfold rsl; split <;> omega
theorem rfm_le (g : Nat → Int32) : ∀ d p, rfm g p d ≤ d
  | 0, _ => Nat.le_refl _
  | d + 1, p => by
    rw [rfm]
    have := rfm_le g d (p + 1)
    split <;> omega
theorem rse_le (g : Nat → Int32) (p : Nat) : rse g p ≤ p + 36 := by
  unfold rse
  have h1 := rsl_le g p
  have h2 := (sb_le _ (rfm_le g 4 p)).2
  have h3 : sbits (rfm g p 4) = cl (e_sa 0 (rfm g p 4)) := rfl
  omega
/-- what next leaves at the reader -/
theorem RdAt.of {M N : HM} {r : Nat} {l : List PT} {p : PT} (h : RdAt M r l) (x1 : mK N = mK M) (x2 : mN N = mN M) (x3 : mR N = mR M) (y0 : mI N 97 r = nI (eB (enc (l ++ [p]))).length) (y1 : mI N 99 r = eS (enc (l ++ [p]))) (y2 : mI N 101 r = eF (enc (l ++ [p]))) (y3 : mI N 102 r = eW (enc (l ++ [p]))) (y4 : mI N 98 r = eT (enc (l ++ [p]))) (y5 : mL N 100 r = eV (enc (l ++ [p]))) : RdAt N r (l ++ [p]) := by
  obtain ⟨⟨r1, r2, r3, r4, r5⟩, -⟩ := h
  have e : rt N r = rt M r := by unfold rt; rw [x3]
  exact ⟨⟨by rw [x1]; exact r1, by rw [x3, e]; exact r2, by rw [x1, e]; exact r3, by rw [x2, e]; exact r4, y0⟩, y1, y2, y3, fun _ => ⟨y4, y5⟩⟩
theorem nxA {M : HM} {r k n : Nat} {l : List PT} {p : PT} {Q : QT} (h : RdAt M r l) (hg : RDS (aI M (rt M r)) 0 (eB (enc (l ++ [p])))) (h16 : l.length < 16)
    (hq : ∀ M', RdAt M' r (l ++ [p]) → mI M' 103 r = nI (eB (enc (l ++ [p]))).length - nI (eB (enc l)).length → (∀ a, a ≠ r → Sm a M M') → mK M' = mK M → mR M' = mR M → Q none M' k n) : sp_X3_next [.ref r] M k n Q := by
  obtain ⟨hR, h1, h2, h3, h4⟩ := id h
  have hlen : (eB (enc l)).length + 115 ≤ 1808 := by
    by_cases hl : l = []
    · subst hl; decide
    · have := ((enc_len l).2 hl).1; omega
  refine ⟨(eB (enc l)).length, hR, hlen, by have := rse_le (aI M (rt M r)) (eB (enc l)).length; omega, ?_, ?_, ?_, ?_⟩
  · intro c0
    have hl : l = [] := by
      apply Decidable.byContradiction
      intro hl
      have := ((enc_len l).2 hl).2
      omega
    subst hl
    have e : enc ([] ++ [p]) = (nb p.1.toInt64 32 ++ nb p.2 64, p.1, 0, p.2, 0, 0) := rfl
    have hg1 : RDS (aI M (rt M r)) 0 (nb p.1.toInt64 32 ++ nb p.2 64) := hg
    have g1 := hg1.app.1
    have g2 := hg1.app.2
    rw [nb_len] at g2
    have hb : (nb p.1.toInt64 32 ++ nb p.2 64).length = 96 := by rw [List.length_append, nb_len, nb_len]
    refine hq _ (h.of ?_ ?_ ?_ ?_ ?_ ?_ ?_ ?_ ?_) ?_ ?_ ?_ ?_
    · unfold nx0; simp only [hmK]
    · unfold nx0; simp only [hmN]
    · unfold nx0; simp only [hmR]
    · unfold nx0; simp only [hmI, Nat.reduceEqDiff, false_and, and_self, if_false, if_true]
      rw [e]; show _ = nI (nb p.1.toInt64 32 ++ nb p.2 64).length; rw [hb]
    · unfold nx0; simp only [hmI, Nat.reduceEqDiff, false_and, and_self, if_false, if_true]; exact h1
    · unfold nx0; simp only [hmI, Nat.reduceEqDiff, false_and, and_self, if_false, if_true]; exact h2
    · unfold nx0; simp only [hmI, Nat.reduceEqDiff, false_and, and_self, if_false, if_true]; exact h3
    · unfold nx0; simp only [hmI, Nat.reduceEqDiff, false_and, and_self, if_false, if_true]; exact rdr_32 g1
    · unfold nx0; simp only [hmL, Nat.reduceEqDiff, false_and, and_self, if_false, if_true]; exact rdr_64 g2
    · unfold nx0; simp only [hmI, Nat.reduceEqDiff, false_and, and_self, if_false, if_true]
      rw [e]; show _ = nI (nb p.1.toInt64 32 ++ nb p.2 64).length - _; rw [hb]; rfl
    · intro a ha; exact sm_sI ha (sm_sL ha (sm_sI ha (sm_sI ha (sm_sI ha Sm.rf))))
    · unfold nx0; simp only [hmK]
    · unfold nx0; simp only [hmR]
  all_goals
    intro c0
    have hl : l ≠ [] := fun e => c0 (by rw [e]; rfl)
    have e : enc (l ++ [p]) = enN (enc l) p := enc_snoc p hl
    have hg1 : RDS (aI M (rt M r)) 0 (eB (enc l) ++ (scb (p.1 - eT (enc l) - eS (enc l)) ++ vbits (eF (enc l)) (eW (enc l)) (p.2 ^^^ eV (enc l)))) := by rw [e] at hg; exact hg
    have g1 := hg1.app.2
    rw [Nat.zero_add] at g1
    obtain ⟨a1, a2⟩ := rsc_e g1
    have g2 := g1.app.2
    rw [← a2] at g2
    obtain ⟨t1, t2⟩ := h4 hl
    have f1 : mI M 99 r + rsc (aI M (rt M r)) (eB (enc l)).length = p.1 - eT (enc l) := by
      rw [a1, h1, Int32.add_comm, Int32.sub_add_cancel]
    have f2 : mI M 98 r + (mI M 99 r + rsc (aI M (rt M r)) (eB (enc l)).length) = p.1 := by
      rw [f1, t1, Int32.add_comm, Int32.sub_add_cancel]
    have hx : ∀ y : Int64, y = p.2 ^^^ eV (enc l) → mL M 100 r ^^^ y = p.2 := fun y hy => by
      rw [hy, t2, Int64.xor_comm p.2, ← Int64.xor_assoc, Int64.xor_self, Int64.zero_xor]
    have hbl : (eB (enN (enc l) p)).length = rse (aI M (rt M r)) (eB (enc l)).length + (vbits (eF (enc l)) (eW (enc l)) (p.2 ^^^ eV (enc l))).length := by
      rw [a2]
      show (eB (enc l) ++ (scb (p.1 - eT (enc l) - eS (enc l)) ++ vbits (eF (enc l)) (eW (enc l)) (p.2 ^^^ eV (enc l)))).length = _
      rw [List.length_append, List.length_append]; omega
  · intro d0
    have hx0 := vb_rd0 g2 d0
    have hv : (vbits (eF (enc l)) (eW (enc l)) (p.2 ^^^ eV (enc l))).length = 1 := by unfold vbits; rw [if_pos hx0, nb_len]
    rw [hv] at hbl
    refine hq _ (h.of ?_ ?_ ?_ ?_ ?_ ?_ ?_ ?_ ?_) ?_ ?_ ?_ ?_
    · unfold nxE nxN; simp only [hmK]
    · unfold nxE nxN; simp only [hmN]
    · unfold nxE nxN; simp only [hmR]
    · unfold nxE nxN; simp only [hmI, Nat.reduceEqDiff, false_and, and_self, if_false, if_true]
      rw [e, hbl]
    · unfold nxE nxN; simp only [hmI, Nat.reduceEqDiff, false_and, and_self, if_false, if_true]
      rw [e, f1]; rfl
    · unfold nxE nxN; simp only [hmI, Nat.reduceEqDiff, false_and, and_self, if_false, if_true]
      rw [e, h2]; show _ = vF _ _ _; unfold vF; rw [if_pos hx0]
    · unfold nxE nxN; simp only [hmI, Nat.reduceEqDiff, false_and, and_self, if_false, if_true]
      rw [e, h3]; show _ = vW _ _ _; unfold vW; rw [if_pos hx0]
    · unfold nxE nxN; simp only [hmI, Nat.reduceEqDiff, false_and, and_self, if_false, if_true]
      rw [e, f2]; rfl
    · unfold nxE nxN; simp only [hmL, Nat.reduceEqDiff, false_and, and_self, if_false, if_true]
      rw [e, hx 0 hx0.symm]; rfl
    · unfold nxE nxN; simp only [hmI, Nat.reduceEqDiff, false_and, and_self, if_false, if_true]
      rw [e, hbl]
    · intro a ha; exact sm_sI ha (sm_sL ha (sm_sI ha (sm_sI ha (sm_sI ha (sm_sI ha Sm.rf)))))
    · unfold nxE nxN; simp only [hmK]
    · unfold nxE nxN; simp only [hmR]
  · intro d0 d1
    have hx0 := vb_rdn g2 d0
    obtain ⟨u1, u2, u3, u4⟩ := vb_fit (FW_enc l) hx0 g2 d1
    obtain ⟨fa, fc, v1, v2, v3⟩ := FW_enc l
    rw [u3] at hbl
    have hcl : cl (nI fc) = fc := nI_clamp (by omega)
    refine ⟨by rw [h3, v2, hcl], by rw [h3, v2, hcl]; omega, ?_⟩
    rw [h2, h3]
    refine hq _ (h.of ?_ ?_ ?_ ?_ ?_ ?_ ?_ ?_ ?_) ?_ ?_ ?_ ?_
    · unfold nxE nxN; simp only [hmK]
    · unfold nxE nxN; simp only [hmN]
    · unfold nxE nxN; simp only [hmR]
    · unfold nxE nxN; simp only [hmI, Nat.reduceEqDiff, false_and, and_self, if_false, if_true]
      rw [e, hbl]; congr 1; omega
    · unfold nxE nxN; simp only [hmI, Nat.reduceEqDiff, false_and, and_self, if_false, if_true]
      rw [e, f1]; rfl
    · unfold nxE nxN; simp only [hmI, Nat.reduceEqDiff, false_and, and_self, if_false, if_true]
      rw [e, h2]; exact u1.symm
    · unfold nxE nxN; simp only [hmI, Nat.reduceEqDiff, false_and, and_self, if_false, if_true]
      rw [e, h3]; exact u2.symm
    · unfold nxE nxN; simp only [hmI, Nat.reduceEqDiff, false_and, and_self, if_false, if_true]
      rw [e, f2]; rfl
    · unfold nxE nxN; simp only [hmL, Nat.reduceEqDiff, false_and, and_self, if_false, if_true]
      rw [e, hx _ u4]; rfl
    · unfold nxE nxN; simp only [hmI, Nat.reduceEqDiff, false_and, and_self, if_false, if_true]
      rw [e, hbl]; congr 2; omega
    · intro a ha; exact sm_sI ha (sm_sL ha (sm_sI ha (sm_sI ha (sm_sI ha (sm_sI ha Sm.rf)))))
    · unfold nxE nxN; simp only [hmK]
    · unfold nxE nxN; simp only [hmR]
  · intro d0 d1
    have hx0 := vb_rdn g2 d0
    obtain ⟨f, u0, u0', u1, u2, u3, u4⟩ := vb_new hx0 g2 d1
    rw [u3] at hbl
    refine ⟨f, u0, u0', ?_⟩
    have hrt : rt (nxN M r (eB (enc l)).length) r = rt M r := rfl
    have hA : aI (nxN M r (eB (enc l)).length) = aI M := by unfold nxN; simp only [haI]
    refine hq _ (h.of ?_ ?_ ?_ ?_ ?_ ?_ ?_ ?_ ?_) ?_ ?_ ?_ ?_
    · unfold nxE rvf nxN; simp only [hmK]
    · unfold nxE rvf nxN; simp only [hmN]
    · unfold nxE rvf nxN; simp only [hmR]
    · unfold nxE; simp only [hmI, Nat.reduceEqDiff, false_and, and_self, if_false, if_true]
      rw [e, hbl]; congr 1; omega
    · unfold nxE rvf nxN; simp only [hmI, Nat.reduceEqDiff, false_and, and_self, if_false, if_true]
      rw [e, f1]; rfl
    · unfold nxE rvf; simp only [hmI, Nat.reduceEqDiff, false_and, and_self, if_false, if_true]
      rw [e, hA, hrt]; exact u1.symm
    · unfold nxE rvf; simp only [hmI, Nat.reduceEqDiff, false_and, and_self, if_false, if_true]
      rw [e, hA, hrt]; exact u2.symm
    · unfold nxE rvf nxN; simp only [hmI, Nat.reduceEqDiff, false_and, and_self, if_false, if_true]
      rw [e, f2]; rfl
    · unfold nxE; simp only [hmL, Nat.reduceEqDiff, false_and, and_self, if_false, if_true]
      rw [e, hx _ u4]; rfl
    · unfold nxE; simp only [hmI, Nat.reduceEqDiff, false_and, and_self, if_false, if_true]
      rw [e, hbl]; congr 2; omega
    · intro a ha; exact sm_sI ha (sm_sL ha (sm_sI ha (sm_sI ha (sm_sI ha (sm_sI ha (sm_sI ha (sm_sI ha (sm_sI ha Sm.rf))))))))
    · unfold nxE rvf nxN; simp only [hmK]
    · unfold nxE rvf nxN; simp only [hmR]
/-- a whole block's bytes hold its code -/
theorem RDS_byt {g : Nat → Int32} {bs : List Bool} (h : ∀ k, g k = byt bs k) : RDS g 0 bs := by
  intro i hi
  have : g = byt bs := funext h
  rw [this, Nat.zero_add]
  unfold byt
  rw [gbit_wbl, if_pos (by omega), Nat.sub_zero]
  have : gbit (fun _ => 0) i = false := by
    unfold gbit ib
    exact BitVec.getLsbD_zero
  rw [this, Bool.false_or]
theorem RDS.pre {g : Nat → Int32} {l r : List PT} (h : RDS g 0 (eB (enc (l ++ r)))) : RDS g 0 (eB (enc l)) := by
  by_cases hl : l = []
  · subst hl; intro i hi; exact absurd hi (Nat.not_lt_zero _)
  · obtain ⟨bs, hb⟩ := enc_pre r l hl
    rw [hb] at h
    exact h.app.1
