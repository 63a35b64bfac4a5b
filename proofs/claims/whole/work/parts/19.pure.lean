/-! the pure ground: blocks' arrays, bits -/
def bt (M : HM) (b : Nat) : Nat := (mR M 0 b).getD 0
def uI (M : HM) (y : Nat) (g : Nat → Int32) : HM := (mK M, mN M, mI M, mL M, mR M, (fun a => if a = y then g else aI M a), aL M, aR M)
def WB (M : HM) (b : Nat) : Prop := mK M b = 1 ∧ mR M 0 b = some (bt M b) ∧ mK M (bt M b) = 9 ∧ mN M (bt M b) = 226 ∧ ∀ z, mR M 1 b = some z → mK M z = 9 ∧ mN M z = 226 ∧ z ≠ bt M b
theorem hmU : (∀ M y g, mK (uI M y g) = mK M) ∧ (∀ M y g, mN (uI M y g) = mN M) ∧ (∀ M y g, mI (uI M y g) = mI M) ∧ (∀ M y g, mL (uI M y g) = mL M) ∧ (∀ M y g, mR (uI M y g) = mR M) ∧ (∀ M y g a, aI (uI M y g) a = if a = y then g else aI M a) ∧ (∀ M y g, aL (uI M y g) = aL M) ∧ (∀ M y g, aR (uI M y g) = aR M) := ⟨fun _ _ _ => rfl, fun _ _ _ => rfl, fun _ _ _ => rfl, fun _ _ _ => rfl, fun _ _ _ => rfl, fun _ _ _ _ => rfl, fun _ _ _ => rfl, fun _ _ _ => rfl⟩
theorem bts : (∀ M f a v b, bt (sI M f a v) b = bt M b) ∧ (∀ M f a v b, bt (sL M f a v) b = bt M b) ∧ (∀ M f a v b, bt (tI M f a v) b = bt M b) ∧ (∀ M f a v b, bt (tL M f a v) b = bt M b) ∧ (∀ M f a v b, bt (tR M f a v) b = bt M b) ∧ (∀ M y g b, bt (uI M y g) b = bt M b) := ⟨fun _ _ _ _ _ => rfl, fun _ _ _ _ _ => rfl, fun _ _ _ _ _ => rfl, fun _ _ _ _ _ => rfl, fun _ _ _ _ _ => rfl, fun _ _ _ _ => rfl⟩
theorem wbs : (∀ M f a v b, WB (sI M f a v) b = WB M b) ∧ (∀ M f a v b, WB (sL M f a v) b = WB M b) ∧ (∀ M f a v b, WB (tI M f a v) b = WB M b) ∧ (∀ M f a v b, WB (tL M f a v) b = WB M b) ∧ (∀ M f a v b, WB (tR M f a v) b = WB M b) ∧ (∀ M y g b, WB (uI M y g) b = WB M b) := ⟨fun _ _ _ _ _ => rfl, fun _ _ _ _ _ => rfl, fun _ _ _ _ _ => rfl, fun _ _ _ _ _ => rfl, fun _ _ _ _ _ => rfl, fun _ _ _ _ => rfl⟩
theorem i_ge {n : Nat} {x : Int32} (h0 : ¬ x < 0) (h : x < nI n) (hn : n < 2 ^ 31) : vp_in x n := by
  obtain ⟨j, hj, rfl⟩ := nI_of h0
  rw [nI_ltI hj hn] at h
  exact vp_in_nI h hn
theorem nI_226 : nI 226 = 226 := rfl
theorem of_226 : Int32.ofNat 226 = 226 := rfl
