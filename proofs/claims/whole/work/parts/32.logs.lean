/-! leading and trailing zeros -/
theorem log2_div (k : Nat) : ∀ v : Nat, 2 ^ k ≤ v → Nat.log2 v = Nat.log2 (v / 2 ^ k) + k := by
  induction k with
  | zero => intro v _; simp
  | succ k ih =>
    intro v hv
    have h1 : 2 ≤ v := by
      have : 2 ^ (k + 1) = 2 * 2 ^ k := by rw [Nat.pow_succ]; omega
      have : 0 < 2 ^ k := Nat.two_pow_pos k
      omega
    have h2 : 2 ^ k ≤ v / 2 := by
      have : 2 ^ (k + 1) = 2 ^ k * 2 := Nat.pow_succ 2 k
      omega
    rw [Nat.log2_def v, if_pos h1, ih (v / 2) h2, Nat.div_div_eq_div_mul, show 2 * 2 ^ k = 2 ^ (k + 1) by rw [Nat.pow_succ]; omega]
    omega
theorem iush_n {v : Nat} (hv : v < 2 ^ 32) : iush (nI v) 1 = nI (v / 2 ^ 1) ∧ iush (nI v) 2 = nI (v / 2 ^ 2) ∧ iush (nI v) 4 = nI (v / 2 ^ 4) ∧ iush (nI v) 8 = nI (v / 2 ^ 8) ∧ iush (nI v) 16 = nI (v / 2 ^ 16) := ⟨pk_ushrN hv 1 1 (by decide), pk_ushrN hv 2 2 (by decide), pk_ushrN hv 4 4 (by decide), pk_ushrN hv 8 8 (by decide), pk_ushrN hv 16 16 (by decide)⟩
theorem nI_mn {m k : Nat} (h : k ≤ m) (x : Int32) (hx : x = -nI k) : nI m + x = nI (m - k) := by
  rw [hx, ← Int32.sub_eq_add_neg, pk_sub h]
theorem nz4_e {v m : Nat} (h1 : 1 ≤ v) (h2 : v < 4) (hm : 1 ≤ m) : nz4 (nI v) (nI m) = nI (m - Nat.log2 v) := by
  unfold nz4
  rw [(iush_n (by omega)).1, pk_sub (by omega)]
  have : Nat.log2 v = v / 2 ^ 1 := by
    match v, h1, h2 with
    | 1, _, _ => decide
    | 2, _, _ => decide
    | 3, _, _ => decide
  rw [this]
theorem nz3_e {v m : Nat} (h1 : 1 ≤ v) (h2 : v < 16) (hm : 3 ≤ m) : nz3 (nI v) (nI m) = nI (m - Nat.log2 v) := by
  unfold nz3
  by_cases c : v < 4
  · have hc : nI v < 4 := nI_lt (b := 4) c (by decide)
    rw [if_pos hc]
    exact nz4_e h1 c (by omega)
  · have hc : ¬ nI v < 4 := nI_nlt (b := 4) (by omega) (by omega)
    rw [if_neg hc, (iush_n (by omega)).2.1, nI_mn (k := 2) (by omega) (-2) rfl, nz4_e (by omega) (by omega) (by omega), log2_div 2 v (by omega)]
    congr 1; omega
theorem nz2_e {v m : Nat} (h1 : 1 ≤ v) (h2 : v < 256) (hm : 7 ≤ m) : nz2 (nI v) (nI m) = nI (m - Nat.log2 v) := by
  unfold nz2
  by_cases c : v < 16
  · have hc : nI v < 16 := nI_lt (b := 16) c (by decide)
    rw [if_pos hc]
    exact nz3_e h1 c (by omega)
  · have hc : ¬ nI v < 16 := nI_nlt (b := 16) (by omega) (by omega)
    rw [if_neg hc, (iush_n (by omega)).2.2.1, nI_mn (k := 4) (by omega) (-4) rfl, nz3_e (by omega) (by omega) (by omega), log2_div 4 v (by omega)]
    congr 1; omega
theorem nz1_e {v m : Nat} (h1 : 1 ≤ v) (h2 : v < 65536) (hm : 15 ≤ m) : nz1 (nI v) (nI m) = nI (m - Nat.log2 v) := by
  unfold nz1
  by_cases c : v < 256
  · have hc : nI v < 256 := nI_lt (b := 256) c (by decide)
    rw [if_pos hc]
    exact nz2_e h1 c (by omega)
  · have hc : ¬ nI v < 256 := nI_nlt (b := 256) (by omega) (by omega)
    rw [if_neg hc, (iush_n (by omega)).2.2.2.1, nI_mn (k := 8) (by omega) (-8) rfl, nz2_e (by omega) (by omega) (by omega), log2_div 8 v (by omega)]
    congr 1; omega
theorem nz0_e {v m : Nat} (h1 : 1 ≤ v) (h2 : v < 2 ^ 31) (hm : 31 ≤ m) : nz0 (nI v) (nI m) = nI (m - Nat.log2 v) := by
  unfold nz0
  by_cases c : v < 65536
  · have hc : nI v < 65536 := nI_lt (b := 65536) c (by decide)
    rw [if_pos hc]
    exact nz1_e h1 c (by omega)
  · have hc : ¬ nI v < 65536 := nI_nlt (b := 65536) (by omega) (by omega)
    rw [if_neg hc, (iush_n (by omega)).2.2.2.2, nI_mn (k := 16) (by omega) (-16) rfl, nz1_e (by omega) (by omega) (by omega), log2_div 16 v (by omega)]
    congr 1; omega
theorem nI_big {v : Nat} (h1 : 2 ^ 31 ≤ v) (h2 : v < 2 ^ 32) : nI v < 0 := by
  have e : (nI v).toInt = (v : Int) - 2 ^ 32 := by
    show (Int32.ofNat v).toInt = _
    rw [Int32.toInt_ofNat']
    rw [Int.bmod_def]
    simp only [show Int32.size = 4294967296 from rfl]
    omega
  rw [Int32.lt_iff_toInt_lt, e]
  show (v : Int) - 2 ^ 32 < 0
  omega
theorem nlzI_e {v : Nat} (h1 : 1 ≤ v) (h2 : v < 2 ^ 32) : nlzI (nI v) = nI (31 - Nat.log2 v) := by
  unfold nlzI
  by_cases c : v < 2 ^ 31
  · have hc : 0 < nI v := nI_lt (a := 0) (by omega) c
    rw [if_pos hc]
    exact nz0_e (m := 31) h1 c (by decide)
  · have hb := nI_big (by omega) h2
    rw [if_neg (fun z => absurd (Int32.lt_trans hb z) Int32.lt_irrefl), if_neg (fun z => by rw [z] at hb; exact absurd hb Int32.lt_irrefl)]
    have : Nat.log2 v = 31 := by
      rw [log2_div 31 v (by omega), show v / 2 ^ 31 = 1 by omega]
      rfl
    rw [this]
    rfl
theorem nI_mod (n : Nat) : nI n = nI (n % 2 ^ 32) := Int32.toBitVec_inj.mp (by
  show BitVec.ofNat 32 n = BitVec.ofNat 32 (n % 2 ^ 32)
  apply BitVec.eq_of_toNat_eq
  simp)
theorem hiL_e {n : Nat} (hn : n < 2 ^ 64) : hiL (lN n) = nI (n / 2 ^ 32) := by
  have h := wb_shr (n := n) (k := 32) hn (by decide)
  show (((lN n).toUInt64 >>> ((nI 32).toInt64.toUInt64 &&& Int64.toUInt64 63)).toInt64).toInt32 = _
  rw [h, lN_i]
theorem nI_z {n : Nat} (h0 : 0 < n) (h : n < 2 ^ 32) : ¬ nI n = 0 := fun z => by
  have := congrArg (fun x : Int32 => x.toBitVec.toNat) z
  simp only [pk_tn h] at this
  have e0 : (0 : Int32).toBitVec.toNat = 0 := rfl
  omega
theorem nlzL_e {n : Nat} (h1 : 0 < n) (h2 : n < 2 ^ 64) : nlzL (lN n) = nI (63 - Nat.log2 n) := by
  unfold nlzL
  rw [hiL_e h2, lN_i]
  by_cases c : n < 2 ^ 32
  · have e : n / 2 ^ 32 = 0 := by omega
    have hl : Nat.log2 n < 32 := (Nat.log2_lt (by omega)).mpr c
    rw [e, if_pos (show nI 0 = 0 from rfl), nlzI_e h1 c, show (32 : Int32) = nI 32 from rfl, nI_add]
    congr 1; omega
  · have hl : Nat.log2 (n / 2 ^ 32) < 32 := (Nat.log2_lt (by omega)).mpr (by omega)
    rw [if_neg (nI_z (by omega) (by omega)), nlzI_e (by omega) (by omega), log2_div 32 n (by omega)]
    congr 1; omega
/-! trailing zeros -/
theorem tz_ones : ∀ t, t < 32 → (if 0 < nI (2 ^ t - 1) then tz0 (nI (2 ^ t - 1)) 1 else nI (2 ^ t - 1) &&& 32) = nI t := by decide +kernel
theorem low_ones {v t m : Nat} (ht : t < 32) (hv : v = 2 ^ t * (2 * m + 1)) (h2 : v < 2 ^ 32) : (nI v ^^^ (-1)) &&& (nI v - 1) = nI (2 ^ t - 1) := by
  have hp : 0 < 2 ^ t := Nat.two_pow_pos t
  have e1 : nI v - 1 = nI (v - 1) := by
    rw [show (1 : Int32) = nI 1 from rfl, pk_sub]
    rw [hv]; exact Nat.mul_pos hp (by omega)
  have e2 : v - 1 = 2 ^ t * (2 * m) + (2 ^ t - 1) := by rw [hv, Nat.mul_add, Nat.mul_one]; omega
  have e3 : v = 2 ^ t * (2 * m + 1) + 0 := by omega
  rw [e1]
  apply Int32.toBitVec_inj.mp
  apply BitVec.eq_of_getLsbD_eq
  intro i hi
  have b1 : (nI v).toBitVec.getLsbD i = v.testBit i := by
    show (BitVec.ofNat 32 v).getLsbD i = _
    rw [BitVec.getLsbD_ofNat]
    simp only [hi, decide_true, Bool.true_and]
  have b2 : (nI (v - 1)).toBitVec.getLsbD i = (v - 1).testBit i := by
    show (BitVec.ofNat 32 (v - 1)).getLsbD i = _
    rw [BitVec.getLsbD_ofNat]
    simp only [hi, decide_true, Bool.true_and]
  have b3 : (nI (2 ^ t - 1)).toBitVec.getLsbD i = (2 ^ t - 1).testBit i := by
    show (BitVec.ofNat 32 (2 ^ t - 1)).getLsbD i = _
    rw [BitVec.getLsbD_ofNat]
    simp only [hi, decide_true, Bool.true_and]
  have b4 : (-1 : Int32).toBitVec.getLsbD i = true := by
    have h : ∀ i, i < 32 → (-1 : Int32).toBitVec.getLsbD i = true := by decide
    exact h i hi
  rw [Int32.toBitVec_and, Int32.toBitVec_xor, BitVec.getLsbD_and, BitVec.getLsbD_xor, b1, b2, b3, b4]
  have t1 : v.testBit i = if i < t then false else (2 * m + 1).testBit (i - t) := by
    rw [e3, Nat.testBit_two_pow_mul_add _ (by omega)]
    simp
  have t2 : (v - 1).testBit i = if i < t then (2 ^ t - 1).testBit i else (2 * m).testBit (i - t) := by
    rw [e2, Nat.testBit_two_pow_mul_add _ (by omega)]
  have t3 : (2 ^ t - 1).testBit i = decide (i < t) := Nat.testBit_two_pow_sub_one t i
  rw [t1, t2, t3]
  by_cases c : i < t
  · simp [c]
  · simp only [c, if_false, decide_false]
    cases hj : i - t with
    | zero => simp [Nat.testBit_zero]
    | succ j =>
      have u1 : (2 * m + 1).testBit (j + 1) = m.testBit j := by
        rw [Nat.testBit_succ]; congr 1; omega
      have u2 : (2 * m).testBit (j + 1) = m.testBit j := by
        rw [Nat.testBit_succ]; congr 1; omega
      rw [u1, u2]
      cases m.testBit j <;> rfl
theorem ntzI_e {v t m : Nat} (ht : t < 32) (hv : v = 2 ^ t * (2 * m + 1)) (h2 : v < 2 ^ 32) : ntzI (nI v) = nI t := by
  unfold ntzI
  rw [low_ones ht hv h2]
  exact tz_ones t ht
/-- v is 2^t times an odd number -/
theorem odd_part : ∀ (k v : Nat), 0 < v → v < 2 ^ k → ∃ t m, t < k ∧ v = 2 ^ t * (2 * m + 1)
  | 0, v, h0, h => by simp at h; omega
  | k + 1, v, h0, h => by
    by_cases c : v % 2 = 1
    · exact ⟨0, v / 2, by omega, by omega⟩
    · have hk : v / 2 < 2 ^ k := by rw [Nat.pow_succ] at h; omega
      obtain ⟨t, m, ht, hv⟩ := odd_part k (v / 2) (by omega) hk
      refine ⟨t + 1, m, by omega, ?_⟩
      rw [Nat.pow_succ, Nat.mul_right_comm, ← hv]
      omega
theorem odd_uniq {a b x y : Nat} (h : 2 ^ a * (2 * x + 1) = 2 ^ b * (2 * y + 1)) : a = b := by
  have key : ∀ {a b x y : Nat}, 2 ^ a * (2 * x + 1) = 2 ^ b * (2 * y + 1) → ¬ a < b := by
    intro a b x y h hab
    have e : 2 ^ b = 2 ^ a * (2 * 2 ^ (b - a - 1)) := by
      rw [← Nat.mul_assoc, Nat.mul_comm (2 ^ a) 2, Nat.mul_assoc, ← Nat.pow_add, show a + (b - a - 1) = b - 1 by omega, Nat.mul_comm, ← Nat.pow_succ]
      congr 1; omega
    rw [e, Nat.mul_assoc] at h
    have h2 := Nat.eq_of_mul_eq_mul_left (Nat.two_pow_pos a) h
    rw [Nat.mul_assoc] at h2
    omega
  have h1 := key h
  have h2 := key h.symm
  omega
theorem ntzL_e {n t m : Nat} (ht : t < 64) (hv : n = 2 ^ t * (2 * m + 1)) (h2 : n < 2 ^ 64) : ntzL (lN n) = nI t := by
  unfold ntzL
  rw [hiL_e h2, lN_i, nI_mod n]
  have hp : 0 < 2 ^ t := Nat.two_pow_pos t
  by_cases c : n % 2 ^ 32 = 0
  · have h32 : 32 ≤ t := by
      apply Nat.le_of_not_lt
      intro q
      have e : 2 ^ 32 = 2 ^ t * (2 * 2 ^ (31 - t)) := by
        rw [← Nat.mul_assoc, Nat.mul_comm (2 ^ t) 2, Nat.mul_assoc, ← Nat.pow_add, show t + (31 - t) = 31 by omega]
      have d : 2 ^ 32 ∣ n := Nat.dvd_of_mod_eq_zero c
      obtain ⟨w, hw⟩ := d
      rw [hv, e, Nat.mul_assoc] at hw
      have := Nat.eq_of_mul_eq_mul_left hp hw
      rw [Nat.mul_assoc] at this
      omega
    have e2 : n / 2 ^ 32 = 2 ^ (t - 32) * (2 * m + 1) := by
      rw [hv, show 2 ^ t = 2 ^ 32 * 2 ^ (t - 32) by rw [← Nat.pow_add]; congr 1; omega, Nat.mul_assoc, Nat.mul_div_cancel_left _ (by decide)]
    rw [c, if_pos (show nI 0 = 0 from rfl), ntzI_e (t := t - 32) (m := m) (by omega) e2 (by omega), show (32 : Int32) = nI 32 from rfl, nI_add]
    congr 1; omega
  · obtain ⟨t', m', ht', hv'⟩ := odd_part 32 (n % 2 ^ 32) (by omega) (by omega)
    have e : t' = t := by
      have q1 : n = 2 ^ t' * (2 * (2 ^ (31 - t') * (n / 2 ^ 32) + m') + 1) := by
        have q2 : 2 ^ 32 = 2 ^ t' * (2 * 2 ^ (31 - t')) := by
          rw [← Nat.mul_assoc, Nat.mul_comm (2 ^ t') 2, Nat.mul_assoc, ← Nat.pow_add, show t' + (31 - t') = 31 by omega]
        have q3 : n = 2 ^ 32 * (n / 2 ^ 32) + n % 2 ^ 32 := (Nat.div_add_mod n (2 ^ 32)).symm
        have q4 : ∀ w, 2 ^ 32 * w = 2 ^ t' * (2 * (2 ^ (31 - t') * w)) := fun w => by
          rw [q2]
          simp only [Nat.mul_assoc]
        rw [q4, hv'] at q3
        rw [← Nat.mul_add] at q3
        conv => lhs; rw [q3]
        congr 1
        omega
      exact odd_uniq (q1.symm.trans hv)
    rw [if_neg (nI_z (by omega) (by omega)), ntzI_e ht' hv' (by omega), e]
theorem LT_all (x : Int64) : LT x := by
  intro hx
  obtain ⟨n, hn, rfl⟩ := wb_of x
  have h0 : 0 < n := Nat.pos_of_ne_zero (fun e => hx (by rw [e]; rfl))
  obtain ⟨t, m, ht, hv⟩ := odd_part 64 n h0 hn
  have hp : 2 ^ t ≤ n := by rw [hv]; exact Nat.le_mul_of_pos_right _ (by omega)
  have hl : t ≤ Nat.log2 n := (Nat.le_log2 (by omega)).mpr hp
  have hl2 : Nat.log2 n < 64 := (Nat.log2_lt (by omega)).mpr hn
  exact ⟨63 - Nat.log2 n, t, nlzL_e h0 hn, ntzL_e ht hv hn, by omega⟩
