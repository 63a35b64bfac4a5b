def ib (x : Int32) (i : Nat) : Bool := x.toBitVec.getLsbD i
theorem b_ext {x y : Int32} (h : ∀ i, i < 32 → ib x i = ib y i) : x = y := Int32.toBitVec_inj.mp (BitVec.eq_of_getLsbD_eq (fun i hi => h i hi))
theorem b_or (x y : Int32) (i : Nat) : ib (x ||| y) i = (ib x i || ib y i) := by unfold ib; rw [Int32.toBitVec_or, BitVec.getLsbD_or]
theorem b_and (x y : Int32) (i : Nat) : ib (x &&& y) i = (ib x i && ib y i) := by unfold ib; rw [Int32.toBitVec_and, BitVec.getLsbD_and]
theorem s_l : ∀ n, n < 32 → ((nI n &&& 31).toBitVec.smod 32).toNat = n := by decide +kernel
theorem b_sshr (n : Nat) (hn : n < 32) (x : Int32) {i : Nat} (hi : i < 32) : ib (x >>> (nI n &&& 31)) i = if n + i < 32 then ib x (n + i) else ib x 31 := by
  unfold ib
  rw [Int32.toBitVec_shiftRight]
  show (x.toBitVec.sshiftRight ((nI n &&& 31).toBitVec.smod 32).toNat).getLsbD i = _
  rw [s_l n hn, BitVec.getLsbD_sshiftRight, BitVec.msb_eq_getLsbD_last]
  simp [hi]
/-! bits read back -/
def gbit (g : Nat → Int32) (q : Nat) : Bool := ib (g (q / 8)) (7 - q % 8)
theorem bm_ib : ∀ r, r < 8 → ∀ i, i < 32 → ib ((128 : Int32) >>> (nI r &&& 31)) i = decide (i = 7 - r) := by decide +kernel
theorem ib_1 : ∀ i, i < 32 → ib (1 : Int32) i = decide (i = 0) := by decide +kernel
theorem gbit_wb1 (g : Nat → Int32) (p : Nat) (v : Bool) (q : Nat) : gbit (wb1 g p v) q = if q = p then (gbit g q || v) else gbit g q := by
  unfold gbit wb1
  have hb : ib (bm p) (7 - q % 8) = decide (7 - q % 8 = 7 - p % 8) := bm_ib (p % 8) (by omega) _ (by omega)
  by_cases c : v = true ∧ q / 8 = p / 8
  · rw [if_pos c, b_or, hb]
    obtain ⟨rfl, c2⟩ := c
    by_cases e : q = p
    · subst e; simp
    · have : ¬ 7 - q % 8 = 7 - p % 8 := by omega
      simp [e, this]
  · rw [if_neg c]
    by_cases e : q = p
    · subst e
      have : v = false := by cases v <;> simp_all
      simp [this]
    · simp [e]
theorem gbit_wbl : ∀ (bs : List Bool) (g : Nat → Int32) (p q : Nat), gbit (wbl g p bs) q = if p ≤ q ∧ q < p + bs.length then (gbit g q || bs.getD (q - p) false) else gbit g q
  | [], g, p, q => by
    have : ¬ (p ≤ q ∧ q < p + ([] : List Bool).length) := by simp
    rw [if_neg this]; rfl
  | v :: bs, g, p, q => by
    rw [wbl, gbit_wbl bs (wb1 g p v) (p + 1) q, gbit_wb1]
    have hl : (v :: bs).length = bs.length + 1 := rfl
    by_cases e : q = p
    · subst e
      rw [if_neg (by omega), if_pos rfl, if_pos (by omega)]
      simp
    · rw [if_neg e]
      by_cases c : p + 1 ≤ q ∧ q < p + 1 + bs.length
      · rw [if_pos c, if_pos (by omega), show q - p = (q - (p + 1)) + 1 by omega]
        rfl
      · rw [if_neg c, if_neg (by omega)]
theorem rbit_e (g : Nat → Int32) (q : Nat) : rbit g q = if gbit g q then 1 else 0 := by
  have e : (7 : Int32) - nI (q % 8) = nI (7 - q % 8) := by rw [show (7 : Int32) = nI 7 from rfl, pk_sub (by omega)]
  unfold rbit
  rw [e]
  apply b_ext
  intro i hi
  rw [b_and, b_sshr (7 - q % 8) (by omega) _ hi, ib_1 i hi]
  unfold gbit
  by_cases c : i = 0
  · subst c
    rw [if_pos (by omega)]
    simp only [Nat.add_zero, decide_true, Bool.and_true]
    cases ib (g (q / 8)) (7 - q % 8) <;> decide
  · simp only [c, decide_false, Bool.and_false]
    cases ib (g (q / 8)) (7 - q % 8)
    · simp [ib]
    · have := ib_1 i hi
      simp only [if_true, this, c, decide_false]
