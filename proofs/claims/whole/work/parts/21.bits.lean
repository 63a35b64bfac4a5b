theorem ts_nf {x : Bool} (h : ¬ x = false) : x = true := by cases x <;> first | rfl | exact absurd rfl h
theorem ts_nt {x : Bool} (h : ¬ x = true) : x = false := by cases x <;> first | rfl | exact absurd rfl h
theorem ts_bit {w : Int64} {s : UInt64} {j : Nat} (hj : j < 64) (hs : s.toNat = j) : ((w.toUInt64 >>> s).toInt64 &&& 1) = 0 ↔ w.toBitVec.getLsbD j = false := by
  have e : (w.toUInt64 >>> s).toInt64.toBitVec = w.toBitVec >>> j := by
    apply BitVec.eq_of_toNat_eq
    show (w.toUInt64 >>> s).toNat = _
    rw [UInt64.toNat_shiftRight, hs, Nat.mod_eq_of_lt hj, BitVec.toNat_ushiftRight]
    rfl
  rw [← Int64.toBitVec_inj, Int64.toBitVec_and, e]
  show w.toBitVec >>> j &&& 1#64 = 0#64 ↔ _
  constructor
  · intro h
    have t := congrArg (fun x => x.getLsbD 0) h
    simpa using t
  · intro h
    apply BitVec.eq_of_getLsbD_eq
    intro i hi
    cases i with
    | zero => simp [h]
    | succ i => simp
theorem wb_tb (n : Nat) : (lN n).toBitVec = BitVec.ofNat 64 n := rfl
theorem wb_inj {a b : Int64} (h : a.toBitVec = b.toBitVec) : a = b := Int64.toBitVec_inj.mp h
theorem wb_tn {n : Nat} (h : n < 2 ^ 64) : (lN n).toBitVec.toNat = n := by rw [wb_tb, BitVec.toNat_ofNat, Nat.mod_eq_of_lt h]
theorem wb_of (x : Int64) : ∃ n, n < 2 ^ 64 ∧ x = lN n := ⟨x.toBitVec.toNat, x.toBitVec.isLt, wb_inj (by rw [wb_tb]; simp)⟩
theorem wb_c : ∀ k, k < 64 → ((nI k).toInt64 &&& 63) = lN k := by decide +kernel
theorem wb_cu : ∀ k, k < 64 → ((nI k).toInt64.toUInt64 &&& Int64.toUInt64 63) = UInt64.ofNat k := by decide +kernel
theorem wb_sm : ∀ k, k < 64 → (BitVec.ofNat 64 k).smod 64 = BitVec.ofNat 64 k := by decide +kernel
theorem wb_shr {n k : Nat} (hn : n < 2 ^ 64) (hk : k < 64) : ((lN n).toUInt64 >>> ((nI k).toInt64.toUInt64 &&& Int64.toUInt64 63)).toInt64 = lN (n / 2 ^ k) := by
  rw [wb_cu k hk]
  apply wb_inj
  apply BitVec.eq_of_toNat_eq
  show ((lN n).toUInt64 >>> UInt64.ofNat k).toNat = (BitVec.ofNat 64 _).toNat
  have h1 : (UInt64.ofNat k).toNat = k := by
    show (BitVec.ofNat 64 k).toNat = k
    rw [BitVec.toNat_ofNat, Nat.mod_eq_of_lt (by omega)]
  have h2 : (lN n).toUInt64.toNat = n := wb_tn hn
  rw [UInt64.toNat_shiftRight, h1, h2, Nat.mod_eq_of_lt hk, Nat.shiftRight_eq_div_pow, BitVec.toNat_ofNat, Nat.mod_eq_of_lt (Nat.lt_of_le_of_lt (Nat.div_le_self _ _) hn)]
theorem wb_shl (n : Nat) {k : Nat} (hk : k < 64) : lN n <<< ((nI k).toInt64 &&& 63) = lN (n * 2 ^ k) := by
  rw [wb_c k hk]
  apply wb_inj
  rw [Int64.toBitVec_shiftLeft, wb_tb, wb_tb, wb_tb, wb_sm k hk]
  apply BitVec.eq_of_toNat_eq
  rw [BitVec.shiftLeft_eq', BitVec.toNat_shiftLeft, BitVec.toNat_ofNat, BitVec.toNat_ofNat, BitVec.toNat_ofNat, Nat.mod_eq_of_lt (show k < 2 ^ 64 by omega), Nat.shiftLeft_eq, Nat.mul_mod, Nat.mod_mod, ← Nat.mul_mod]
theorem u_tn {n : Nat} (h : n < 2 ^ 64) : (UInt64.ofNat n).toNat = n := Nat.mod_eq_of_lt h
/-! bits into bytes -/
theorem hm_ext {M M' : HM} (h1 : mK M = mK M') (h2 : mN M = mN M') (h3 : mI M = mI M') (h4 : mL M = mL M') (h5 : mR M = mR M') (h6 : aI M = aI M') (h7 : aL M = aL M') (h8 : aR M = aR M') : M = M' := by
  obtain ⟨a1, a2, a3, a4, a5, a6, a7, a8⟩ := M
  obtain ⟨b1, b2, b3, b4, b5, b6, b7, b8⟩ := M'
  cases h1; cases h2; cases h3; cases h4; cases h5; cases h6; cases h7; cases h8
  rfl
def tb (x : Int64) (i : Nat) : Bool := x.toBitVec.getLsbD i
def nb (x : Int64) : Nat → List Bool
  | 0 => []
  | c + 1 => tb x c :: nb x c
theorem nb_len (x : Int64) (c : Nat) : (nb x c).length = c := by
  induction c with
  | zero => rfl
  | succ c ih => simp [nb, ih]
def bm (p : Nat) : Int32 := (128 : Int32) >>> (nI (p % 8) &&& 31)
def wb1 (g : Nat → Int32) (p : Nat) (v : Bool) : Nat → Int32 := fun j => if v = true ∧ j = p / 8 then g j ||| bm p else g j
def wbl (g : Nat → Int32) (p : Nat) : List Bool → Nat → Int32
  | [] => g
  | v :: bs => wbl (wb1 g p v) (p + 1) bs
theorem wbl_app (bs cs : List Bool) : ∀ (g : Nat → Int32) (p : Nat), wbl g p (bs ++ cs) = wbl (wbl g p bs) (p + bs.length) cs := by
  induction bs with
  | nil => intro g p; rfl
  | cons v bs ih =>
    intro g p
    show wbl (wb1 g p v) (p + 1) (bs ++ cs) = wbl (wbl (wb1 g p v) (p + 1) bs) (p + (bs.length + 1)) cs
    rw [ih, show p + (bs.length + 1) = p + 1 + bs.length by omega]
def bp (M : HM) (b : Nat) : Nat := (mI M 3 b).toNatClampNeg
def wrM (M : HM) (b : Nat) (bs : List Bool) : HM := sI (uI M (bt M b) (wbl (aI M (bt M b)) (bp M b) bs)) 3 b (nI (bp M b + bs.length))
theorem wr_bp {M : HM} {b : Nat} {bs : List Bool} (h : bp M b + bs.length < 2 ^ 31) : bp (wrM M b bs) b = bp M b + bs.length := by
  unfold bp wrM
  rw [hmI.1]
  simp only [and_self, if_true]
  exact nI_clamp h
theorem wr_I {M : HM} {b : Nat} {bs : List Bool} (h : bp M b + bs.length < 2 ^ 31) : mI (wrM M b bs) 3 b = nI (bp (wrM M b bs) b) := by
  rw [wr_bp h]
  simp [wrM, hmI]
theorem wr_bt {M : HM} {b c : Nat} {bs : List Bool} : bt (wrM M b bs) c = bt M c := rfl
theorem wr_WB {M : HM} {b c : Nat} {bs : List Bool} : WB (wrM M b bs) c = WB M c := rfl
theorem wr_app {M : HM} {b : Nat} {bs cs : List Bool} (h : bp M b + bs.length < 2 ^ 31) : wrM (wrM M b bs) b cs = wrM M b (bs ++ cs) := by
  have h1 := wr_bp h
  have h2 : bt (wrM M b bs) b = bt M b := rfl
  have h3 : aI (wrM M b bs) (bt M b) = wbl (aI M (bt M b)) (bp M b) bs := by simp [wrM, haI, hmU]
  unfold wrM at h1 h2 h3 ⊢
  refine hm_ext rfl rfl ?_ rfl rfl ?_ rfl rfl
  · funext f a
    simp only [hmI, hmU, h1]
    by_cases e : f = 3 ∧ a = b
    · simp [e, Nat.add_assoc]
    · simp [e]
  · funext a
    simp only [haI, hmU, h1, h2, h3]
    by_cases e : a = bt M b
    · subst e
      simp only [if_true, wbl_app, haI, hmU]
    · simp [e, haI, hmU]
theorem bit_test {x : Int64} {c : Nat} (hc : c < 64) : ((x.toUInt64 >>> ((nI c).toInt64.toUInt64 &&& Int64.toUInt64 63)).toInt64 &&& 1 = 0) ↔ tb x c = false := by
  rw [wb_cu c hc]
  exact ts_bit hc (u_tn (by omega))
theorem nI_m1 (c : Nat) : nI c + (-1) = nI c - 1 := (Int32.sub_eq_add_neg _ _).symm
theorem shr3 {p : Nat} (h : p < 2 ^ 31) : nI p >>> ((3 : Int32) &&& 31) = nI (p / 8) := pk_shrN h _ 3 (by decide)
theorem and7 {p : Nat} (h : p < 2 ^ 31) : nI p &&& 7 = nI (p % 8) := pk_andN (by omega) 3 (by decide)
