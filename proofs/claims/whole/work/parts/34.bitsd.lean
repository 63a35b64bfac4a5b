/-! bits read back, as lists; decoding of what was encoded -/
theorem l_ext {x y : Int64} (h : ∀ i, i < 64 → tb x i = tb y i) : x = y := Int64.toBitVec_inj.mp (BitVec.eq_of_getLsbD_eq (fun i hi => h i hi))
theorem tb_hi (x : Int64) {i : Nat} (h : 64 ≤ i) : tb x i = false := BitVec.getLsbD_of_ge _ _ h
theorem tb_or (x y : Int64) (i : Nat) : tb (x ||| y) i = (tb x i || tb y i) := by unfold tb; rw [Int64.toBitVec_or, BitVec.getLsbD_or]
theorem tb_xor (x y : Int64) (i : Nat) : tb (x ^^^ y) i = (tb x i ^^ tb y i) := by unfold tb; rw [Int64.toBitVec_xor, BitVec.getLsbD_xor]
theorem tb_lN {n i : Nat} (hi : i < 64) : tb (lN n) i = n.testBit i := by
  unfold tb
  rw [wb_tb, BitVec.getLsbD_ofNat]
  simp [hi]
theorem tb_shl (x : Int64) {k i : Nat} (hk : k < 64) (hi : i < 64) : tb (x <<< ((nI k).toInt64 &&& 63)) i = (decide (k ≤ i) && tb x (i - k)) := by
  obtain ⟨n, hn, rfl⟩ := wb_of x
  rw [wb_shl n hk, tb_lN hi, tb_lN (by omega), Nat.mul_comm, Nat.testBit_two_pow_mul]
theorem tb_ush (x : Int64) {k i : Nat} (hk : k < 64) (hi : i < 64) : tb (ush x (nI k)) i = tb x (k + i) := by
  obtain ⟨n, hn, rfl⟩ := wb_of x
  unfold ush
  rw [wb_shr hn hk, tb_lN hi, Nat.testBit_div_two_pow]
  by_cases c : k + i < 64
  · rw [tb_lN c, Nat.add_comm]
  · rw [tb_hi _ (by omega), Nat.testBit_lt_two_pow]
    exact Nat.lt_of_lt_of_le hn (Nat.pow_le_pow_right (by decide) (by omega))
theorem tb_0 (i : Nat) : tb 0 i = false := by unfold tb; exact BitVec.getLsbD_zero
theorem tb_1 {i : Nat} (hi : i < 64) : tb 1 i = decide (i = 0) := by
  have h : ∀ i, i < 64 → tb 1 i = decide (i = 0) := by decide +kernel
  exact h i hi
theorem ib_tb (x : Int64) {i : Nat} (hi : i < 32) : ib x.toInt32 i = tb x i := by
  unfold ib tb
  show (x.toBitVec.signExtend 32).getLsbD i = _
  rw [BitVec.getLsbD_signExtend]
  simp [hi, show i < 64 by omega]
theorem tb_ib (x : Int32) {i : Nat} (hi : i < 32) : tb x.toInt64 i = ib x i := by
  unfold ib tb
  show (x.toBitVec.signExtend 64).getLsbD i = _
  rw [BitVec.getLsbD_signExtend]
  simp [hi, show i < 64 by omega]
theorem rst_tb (a : Int64) (g : Nat → Int32) (p : Nat) {i : Nat} (hi : i < 64) : tb (rst a g p) i = if i = 0 then gbit g p else tb a (i - 1) := by
  have e1 : (1 : Int32) = nI 1 := rfl
  unfold rst
  rw [tb_or, e1, tb_shl a (by decide) hi, rbit_e]
  have e2 : tb ((if gbit g p = true then (1 : Int32) else 0).toInt64) i = (decide (i = 0) && gbit g p) := by
    cases gbit g p
    · show tb 0 i = _
      rw [tb_0]; simp
    · show tb 1 i = _
      rw [tb_1 hi]; simp
  rw [e2]
  by_cases c : i = 0
  · subst c; simp
  · simp [c, show 1 ≤ i by omega]
theorem rdr_tb (g : Nat → Int32) : ∀ (c p : Nat) (a : Int64) (i : Nat), i < 64 → tb (rdr g p c a) i = if i < c then gbit g (p + (c - 1 - i)) else tb a (i - c)
  | 0, p, a, i, hi => by simp [rdr]
  | c + 1, p, a, i, hi => by
    rw [rdr, rdr_tb g c (p + 1) _ i hi]
    by_cases h : i < c
    · rw [if_pos h, if_pos (by omega)]
      congr 1; omega
    · rw [if_neg h, rst_tb _ _ _ (by omega)]
      by_cases h2 : i = c
      · subst h2
        rw [if_pos (by omega), if_pos (by omega)]
        congr 1; omega
      · rw [if_neg (by omega), if_neg (by omega)]
        congr 1
/-- the bits bs stand at place p -/
def RDS (g : Nat → Int32) (p : Nat) (bs : List Bool) : Prop := ∀ i, i < bs.length → gbit g (p + i) = bs.getD i false
theorem RDS.app {g : Nat → Int32} {p : Nat} {a b : List Bool} (h : RDS g p (a ++ b)) : RDS g p a ∧ RDS g (p + a.length) b := by
  constructor
  · intro i hi
    rw [h i (by simp; omega), List.getD_eq_getElem?_getD, List.getD_eq_getElem?_getD, List.getElem?_append_left hi]
  · intro i hi
    rw [Nat.add_assoc, h (a.length + i) (by simp; omega), List.getD_eq_getElem?_getD, List.getD_eq_getElem?_getD, List.getElem?_append_right (by omega), Nat.add_sub_cancel_left]
theorem nb_getD (x : Int64) : ∀ (c i : Nat), i < c → (nb x c).getD i false = tb x (c - 1 - i)
  | 0, i, h => by omega
  | c + 1, 0, h => by simp [nb]
  | c + 1, i + 1, h => by
    rw [nb, List.getD_cons_succ, nb_getD x c i (by omega)]
    congr 1; omega
theorem rdr_nb {g : Nat → Int32} {p c : Nat} {x : Int64} (h : RDS g p (nb x c)) {i : Nat} (hi : i < 64) : tb (rdr g p c 0) i = (decide (i < c) && tb x i) := by
  rw [rdr_tb g c p 0 i hi]
  by_cases hc : i < c
  · rw [if_pos hc, h (c - 1 - i) (by rw [nb_len]; omega), nb_getD x c _ (by omega)]
    simp only [hc, decide_true, Bool.true_and]
    congr 1; omega
  · rw [if_neg hc, tb_0]
    simp [hc]
theorem rdr_64 {g : Nat → Int32} {p : Nat} {x : Int64} (h : RDS g p (nb x 64)) : rdr g p 64 0 = x := l_ext (fun i hi => by rw [rdr_nb h hi]; simp [hi])
theorem rdr_32 {g : Nat → Int32} {p : Nat} {t : Int32} (h : RDS g p (nb t.toInt64 32)) : (rdr g p 32 0).toInt32 = t := b_ext (fun i hi => by
  rw [ib_tb _ hi, rdr_nb h (by omega), tb_ib _ hi]; simp [hi])
/-- a number below 2^c -/
theorem rdr_lN {g : Nat → Int32} {p c n : Nat} (hn : n < 2 ^ c) (h : RDS g p (nb (lN n) c)) : rdr g p c 0 = lN n := l_ext (fun i hi => by
  rw [rdr_nb h hi, tb_lN hi]
  by_cases hc : i < c
  · simp [hc]
  · rw [Nat.testBit_lt_two_pow (Nat.lt_of_lt_of_le hn (Nat.pow_le_pow_right (by decide) (by omega)))]
    simp)
theorem rdr_0 {g : Nat → Int32} {p : Nat} (h : RDS g p (nb 0 1)) : rdr g p 1 0 = 0 := rdr_lN (n := 0) (by decide) h
theorem rdr_1 {g : Nat → Int32} {p : Nat} (h : RDS g p (nb 1 1)) : rdr g p 1 0 = 1 := rdr_lN (n := 1) (by decide) h
theorem ones_e : ∀ f, f ≤ 4 → nb (((1 : Int32) <<< (nI f &&& 31)) - 1).toInt64 f = List.replicate f true
  | 0, _ => rfl
  | 1, _ => by decide
  | 2, _ => by decide
  | 3, _ => by decide
  | 4, _ => by decide
  | n + 5, h => absurd h (by omega)
theorem rds1 {g : Nat → Int32} {p : Nat} {b : Bool} {bs : List Bool} (h : RDS g p (b :: bs)) : rdr g p 1 0 = (if b then 1 else 0) ∧ RDS g (p + 1) bs := by
  have h2 := RDS.app (a := [b]) (b := bs) h
  refine ⟨?_, h2.2⟩
  cases b
  · exact rdr_0 h2.1
  · exact rdr_1 h2.1
theorem rfm_e {g : Nat → Int32} : ∀ (d f p : Nat) (bs : List Bool), f ≤ d → RDS g p (List.replicate f true ++ ((if f < d then [false] else []) ++ bs)) → rfm g p d = f
  | 0, f, p, bs, hf, h => by
    have : f = 0 := by omega
    subst this; rfl
  | d + 1, 0, p, bs, hf, h => by
    rw [if_pos (by omega)] at h
    have h1 := (rds1 (b := false) (bs := bs) h).1
    rw [rfm, h1]
    rfl
  | d + 1, f + 1, p, bs, hf, h => by
    have h1 := rds1 (b := true) (bs := List.replicate f true ++ ((if f + 1 < d + 1 then [false] else []) ++ bs)) h
    rw [rfm, h1.1, if_pos (by rfl)]
    have h2 := h1.2
    have e : (if f + 1 < d + 1 then [false] else []) = (if f < d then [false] else []) := by
      by_cases c : f < d
      · rw [if_pos c, if_pos (by omega)]
      · rw [if_neg c, if_neg (by omega)]
    rw [e] at h2
    rw [rfm_e d f (p + 1) bs (by omega) h2]
theorem sbs : sbits 0 = 0 ∧ sbits 1 = 7 ∧ sbits 2 = 9 ∧ sbits 3 = 12 ∧ sbits 4 = 32 := ⟨rfl, rfl, rfl, rfl, rfl⟩
theorem i_rng {x : Int32} {b w : Nat} (hb : b < 2 ^ 20) (hw : w < 2 ^ 20) (h1 : ¬ x < -nI b) (h2 : ¬ nI w < x) : ∃ m, m ≤ b + w ∧ x + nI b = nI m := by
  have e1 := nI_toInt (n := b) (by omega)
  have e2 := nI_toInt (n := w) (by omega)
  have e3 : (-nI b).toInt = -(b : Int) := by
    rw [Int32.toInt_neg, e1, Int.bmod_def]
    omega
  rw [Int32.lt_iff_toInt_lt, e3] at h1
  rw [Int32.lt_iff_toInt_lt, e2] at h2
  refine ⟨(x.toInt + b).toNat, by omega, ?_⟩
  apply Int32.toInt_inj.mp
  rw [nI_toInt (by omega), Int32.toInt_add, e1, Int.bmod_def]
  omega
theorem i_sub {x y z : Int32} (h : x + y = z) : z - y = x := by rw [← h, Int32.add_sub_cancel]
theorem rd_num {g : Nat → Int32} {p c m : Nat} {x y : Int32} (hm : m < 2 ^ c) (hc : c ≤ 20) (e : x + y = nI m) (h : RDS g p (nb (x + y).toInt64 c)) : (rdr g p c 0).toInt32 - y = x := by
  have hb : m < 2 ^ 31 := Nat.lt_of_lt_of_le hm (Nat.pow_le_pow_right (by decide) (by omega))
  rw [e, nI_l hb] at h
  rw [rdr_lN hm h, lN_i]
  exact i_sub e
/-- a change of step is read back, and its end -/
theorem rsc_e {g : Nat → Int32} {p : Nat} {x : Int32} {bs : List Bool} (h : RDS g p (scb x ++ bs)) : rsc g p = x ∧ rse g p = p + (scb x).length := by
  have hf := fof_le x
  have h0 := h.app.1
  have e2 : nb 0 1 = [false] := by decide
  unfold scb at h0
  rw [ones_e _ hf, e2, List.append_assoc] at h0
  have h1 : rfm g p 4 = fof x := rfm_e 4 (fof x) p _ hf h0
  have hl : rsl g p = (List.replicate (fof x) true ++ (if fof x < 4 then [false] else [])).length := by
    unfold rsl
    rw [h1]
    by_cases c : fof x < 4
    · rw [if_pos c, if_pos c]; simp
    · rw [if_neg c, if_neg c]; simp; omega
  have h2 : RDS g (p + rsl g p) (nb (x + e_sa 1 (fof x)).toInt64 (sbits (fof x))) := by
    rw [← List.append_assoc] at h0
    rw [hl]
    exact h0.app.2
  have hs : (scb x).length = rsl g p + sbits (fof x) := by
    rw [hl]; unfold scb
    rw [ones_e _ hf, e2, List.length_append, nb_len]
  refine ⟨?_, by unfold rse; rw [h1, hs]; omega⟩
  unfold rsc
  rw [h1]
  revert h2
  generalize p + rsl g p = q
  intro h2
  unfold fof at h2 ⊢
  by_cases c0 : x = 0
  · rw [if_pos c0]
    rw [c0, sbs.1, rdr]; decide
  by_cases c1 : ¬ x < -63 ∧ ¬ 64 < x
  · rw [if_neg c0, if_pos c1] at h2 ⊢
    obtain ⟨m, hm, e⟩ := i_rng (b := 63) (w := 64) (by decide) (by decide) c1.1 c1.2
    exact rd_num (c := 7) (m := m) (y := nI 63) (by omega) (by decide) e h2
  by_cases c2 : ¬ x < -255 ∧ ¬ 256 < x
  · rw [if_neg c0, if_neg c1, if_pos c2] at h2 ⊢
    obtain ⟨m, hm, e⟩ := i_rng (b := 255) (w := 256) (by decide) (by decide) c2.1 c2.2
    exact rd_num (c := 9) (m := m) (y := nI 255) (by omega) (by decide) e h2
  by_cases c3 : ¬ x < -2047 ∧ ¬ 2048 < x
  · rw [if_neg c0, if_neg c1, if_neg c2, if_pos c3] at h2 ⊢
    obtain ⟨m, hm, e⟩ := i_rng (b := 2047) (w := 2048) (by decide) (by decide) c3.1 c3.2
    exact rd_num (c := 12) (m := m) (y := nI 2047) (by omega) (by decide) e h2
  · rw [if_neg c0, if_neg c1, if_neg c2, if_neg c3] at h2 ⊢
    have e0 : e_sa 1 4 = 0 := rfl
    rw [e0, Int32.add_zero] at h2
    have h3 := rdr_32 (t := x) h2
    rw [e0, Int32.sub_zero]
    exact h3
/-- leading and trailing zeros by bits -/
theorem LTT (x : Int64) (hx : x ≠ 0) : ∃ z t : Nat, nlzL x = nI z ∧ ntzL x = nI t ∧ z + t ≤ 63 ∧ (∀ i, 64 - z ≤ i → tb x i = false) ∧ tb x (63 - z) = true ∧ (∀ i, i < t → tb x i = false) ∧ tb x t = true := by
  obtain ⟨n, hn, rfl⟩ := wb_of x
  have h0 : 0 < n := Nat.pos_of_ne_zero (fun e => hx (by rw [e]; rfl))
  obtain ⟨t, m, ht, hv⟩ := odd_part 64 n h0 hn
  have hp : 2 ^ t ≤ n := by rw [hv]; exact Nat.le_mul_of_pos_right _ (by omega)
  have hl : t ≤ Nat.log2 n := (Nat.le_log2 (by omega)).mpr hp
  have hl2 : Nat.log2 n < 64 := (Nat.log2_lt (by omega)).mpr hn
  refine ⟨63 - Nat.log2 n, t, nlzL_e h0 hn, ntzL_e ht hv hn, by omega, ?_, ?_, ?_, ?_⟩
  · intro i hi
    by_cases c : i < 64
    · rw [tb_lN c, Nat.testBit_lt_two_pow]
      exact Nat.lt_of_lt_of_le Nat.lt_log2_self (Nat.pow_le_pow_right (by decide) (by omega))
    · exact tb_hi _ (by omega)
  · rw [tb_lN (by omega), show 63 - (63 - Nat.log2 n) = Nat.log2 n by omega]
    exact Nat.testBit_log2 (by omega)
  · intro i hi
    rw [tb_lN (by omega), hv, Nat.testBit_two_pow_mul]
    simp; omega
  · rw [tb_lN ht, hv, Nat.testBit_two_pow_mul]
    simp
/-- what stands in a frame, read back -/
theorem frame_e {g : Nat → Int32} {q a c : Nat} {x : Int64} (hac : a + c ≤ 64) (hc : 1 ≤ c) (h1 : ∀ i, 64 - a ≤ i → tb x i = false) (h2 : ∀ i, i < 64 - a - c → tb x i = false) (h : RDS g q (nb (ush x (nI (64 - a - c))) c)) : rdr g q c 0 <<< ((nI (64 - a - c)).toInt64 &&& 63) = x := by
  apply l_ext
  intro i hi
  rw [tb_shl _ (by omega) hi]
  by_cases c1 : 64 - a - c ≤ i
  · rw [rdr_nb h (by omega), tb_ush _ (by omega) (by omega), show 64 - a - c + (i - (64 - a - c)) = i by omega]
    by_cases c2 : i - (64 - a - c) < c
    · simp [c1, c2]
    · rw [h1 i (by omega)]
      simp
  · rw [h2 i (by omega)]
    simp [c1]
