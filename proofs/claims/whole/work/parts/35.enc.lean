/-! points and their code -/
abbrev PT : Type := Int32 × Int64
abbrev ENC : Type := List Bool × Int32 × Int32 × Int64 × Int32 × Int32
def eB (e : ENC) : List Bool := e.1
def eT (e : ENC) : Int32 := e.2.1
def eS (e : ENC) : Int32 := e.2.2.1
def eV (e : ENC) : Int64 := e.2.2.2.1
def eF (e : ENC) : Int32 := e.2.2.2.2.1
def eW (e : ENC) : Int32 := e.2.2.2.2.2
def vbits (fs fb : Int32) (x : Int64) : List Bool := if x = 0 then nb 0 1 else if 0 < fb ∧ ¬ nlzL x < fs ∧ ¬ fs + fb < 64 - ntzL x then vcb fs fb x else vcn x
def vF (fs fb : Int32) (x : Int64) : Int32 := if x = 0 then fs else if 0 < fb ∧ ¬ nlzL x < fs ∧ ¬ fs + fb < 64 - ntzL x then fs else nlzL x
def vW (fs fb : Int32) (x : Int64) : Int32 := if x = 0 then fb else if 0 < fb ∧ ¬ nlzL x < fs ∧ ¬ fs + fb < 64 - ntzL x then fb else 64 - ntzL x - nlzL x
def en1 (p : PT) : ENC := (nb p.1.toInt64 32 ++ nb p.2 64, p.1, 0, p.2, 0, 0)
def enN (e : ENC) (p : PT) : ENC := (eB e ++ (scb (p.1 - eT e - eS e) ++ vbits (eF e) (eW e) (p.2 ^^^ eV e)), p.1, p.1 - eT e, p.2, vF (eF e) (eW e) (p.2 ^^^ eV e), vW (eF e) (eW e) (p.2 ^^^ eV e))
def enc : List PT → ENC
  | [] => ([], 0, 0, 0, 0, 0)
  | p :: l => l.foldl enN (en1 p)
theorem enc_1 (p : PT) : enc [p] = en1 p := rfl
theorem enc_snoc {l : List PT} (p : PT) (h : l ≠ []) : enc (l ++ [p]) = enN (enc l) p := by
  cases l with
  | nil => exact absurd rfl h
  | cons q l =>
    show (l ++ [p]).foldl enN (en1 q) = _
    rw [List.foldl_append]
    rfl
theorem list_snoc {α : Type} (P : List α → Prop) (h0 : P []) (h1 : ∀ l x, P l → P (l ++ [x])) : ∀ l, P l := by
  have key : ∀ n l, l.length = n → P l := by
    intro n
    induction n with
    | zero => intro l hl; rw [List.length_eq_zero_iff.mp hl]; exact h0
    | succ n ih =>
      intro l hl
      have hne : l ≠ [] := fun e => by rw [e] at hl; cases hl
      rw [← List.dropLast_concat_getLast hne]
      exact h1 _ _ (ih _ (by rw [List.length_dropLast, hl]; rfl))
  exact fun l => key l.length l rfl
/-- the frame's numbers -/
def FW (fs fb : Int32) : Prop := ∃ a c : Nat, fs = nI a ∧ fb = nI c ∧ a + c ≤ 64
theorem vfit_n {a c z t : Nat} {x : Int64} (hac : a + c ≤ 64) (hz : nlzL x = nI z) (ht : ntzL x = nI t) (hzt : z + t ≤ 63) : (0 < nI c ∧ ¬ nlzL x < nI a ∧ ¬ nI a + nI c < 64 - ntzL x) ↔ (0 < c ∧ a ≤ z ∧ 64 - t ≤ a + c) := by
  have e64 : (64 : Int32) = nI 64 := rfl
  have e0 : (0 : Int32) = nI 0 := rfl
  rw [hz, ht, e64, pk_sub (by omega), nI_add, e0, nI_ltI (by omega) (by omega), nI_ltI (by omega) (by omega), nI_ltI (by omega) (by omega)]
  omega
theorem FW_v {fs fb : Int32} (h : FW fs fb) (x : Int64) : FW (vF fs fb x) (vW fs fb x) := by
  unfold vF vW
  by_cases c0 : x = 0
  · simp only [c0, if_true]; exact h
  · simp only [c0, if_false]
    split
    · exact h
    · obtain ⟨z, t, hz, ht, hzt, -⟩ := LTT x c0
      refine ⟨z, 64 - t - z, hz, ?_, by omega⟩
      rw [hz, ht, show (64 : Int32) = nI 64 from rfl, pk_sub (by omega), pk_sub (by omega)]
theorem FW_enc : ∀ l, FW (eF (enc l)) (eW (enc l)) := by
  apply list_snoc
  · exact ⟨0, 0, rfl, rfl, by decide⟩
  · intro l p ih
    by_cases hl : l = []
    · subst hl; exact ⟨0, 0, rfl, rfl, by decide⟩
    · rw [enc_snoc p hl]
      exact FW_v ih _
theorem vb_len {fs fb : Int32} (h : FW fs fb) (x : Int64) : (vbits fs fb x).length ≤ 78 := by
  unfold vbits
  by_cases c0 : x = 0
  · rw [if_pos c0]; simp [nb_len]
  · rw [if_neg c0]
    obtain ⟨z, t, hz, ht, hzt, -⟩ := LTT x c0
    split
    · obtain ⟨a, c, ha, hc, hac⟩ := h
      unfold vcb
      simp only [List.length_append, nb_len]
      rw [hc, show cl (nI c) = c from nI_clamp (by omega)]
      omega
    · unfold vcn
      simp only [List.length_append, nb_len]
      rw [hz, ht, show (64 : Int32) = nI 64 from rfl, pk_sub (by omega), pk_sub (by omega), show cl (nI (64 - t - z)) = 64 - t - z from nI_clamp (by omega)]
      omega
theorem enc_len : ∀ l : List PT, (eB (enc l)).length ≤ 114 * l.length ∧ (l ≠ [] → (eB (enc l)).length + 18 ≤ 114 * l.length ∧ 96 ≤ (eB (enc l)).length) := by
  apply list_snoc
  · exact ⟨Nat.le_refl _, fun h => absurd rfl h⟩
  · intro l p ih
    by_cases hl : l = []
    · subst hl
      have : (eB (enc ([] ++ [p]))).length = 96 := by
        show (nb p.1.toInt64 32 ++ nb p.2 64).length = 96
        simp [nb_len]
      rw [this]
      simp
    · rw [enc_snoc p hl]
      have h1 : (eB (enN (enc l) p)).length = (eB (enc l)).length + ((scb (p.1 - eT (enc l) - eS (enc l))).length + (vbits (eF (enc l)) (eW (enc l)) (p.2 ^^^ eV (enc l))).length) := by
        show (eB (enc l) ++ (scb (p.1 - eT (enc l) - eS (enc l)) ++ vbits (eF (enc l)) (eW (enc l)) (p.2 ^^^ eV (enc l)))).length = _
        simp only [List.length_append]
      have h2 := scb_len (p.1 - eT (enc l) - eS (enc l))
      have h3 := vb_len (FW_enc l) (p.2 ^^^ eV (enc l))
      have h4 := (ih.2 hl).1
      have h5 := (ih.2 hl).2
      have h6 : (l ++ [p]).length = l.length + 1 := by simp
      rw [h1, h6]
      refine ⟨by omega, fun _ => ⟨by omega, by omega⟩⟩
theorem enc_T : ∀ (l : List PT) (p : PT), eT (enc (l ++ [p])) = p.1 ∧ eV (enc (l ++ [p])) = p.2 := by
  intro l p
  by_cases hl : l = []
  · subst hl; exact ⟨rfl, rfl⟩
  · rw [enc_snoc p hl]; exact ⟨rfl, rfl⟩
theorem enc_pre : ∀ (r l : List PT), l ≠ [] → ∃ bs, eB (enc (l ++ r)) = eB (enc l) ++ bs := by
  apply list_snoc (fun r => ∀ l : List PT, l ≠ [] → ∃ bs, eB (enc (l ++ r)) = eB (enc l) ++ bs)
  · intro l _; exact ⟨[], by simp⟩
  · intro r p ih l hl
    obtain ⟨bs, h⟩ := ih l hl
    rw [← List.append_assoc, enc_snoc p (by simp [hl])]
    refine ⟨bs ++ (scb (p.1 - eT (enc (l ++ r)) - eS (enc (l ++ r))) ++ vbits (eF (enc (l ++ r))) (eW (enc (l ++ r))) (p.2 ^^^ eV (enc (l ++ r)))), ?_⟩
    rw [← List.append_assoc, ← h]
    rfl
/-- the value's change is read back: its bits, the frame behind it -/
theorem vb_rd0 {g : Nat → Int32} {q : Nat} {fs fb : Int32} {x : Int64} (h : RDS g q (vbits fs fb x)) (h0 : rdr g q 1 0 = 0) : x = 0 := by
  apply Decidable.byContradiction
  intro c0
  unfold vbits at h
  rw [if_neg c0] at h
  have h1 : rdr g q 1 0 = 1 := by
    split at h
    · unfold vcb at h; exact rdr_1 h.app.1
    · unfold vcn at h; exact rdr_1 h.app.1
  rw [h1] at h0
  exact absurd h0 (by decide)
theorem vb_rdn {g : Nat → Int32} {q : Nat} {fs fb : Int32} {x : Int64} (h : RDS g q (vbits fs fb x)) (h0 : ¬ rdr g q 1 0 = 0) : ¬ x = 0 := by
  intro c0
  unfold vbits at h
  rw [if_pos c0] at h
  exact h0 (rdr_0 h)
theorem vb_fit {g : Nat → Int32} {q : Nat} {fs fb : Int32} {x : Int64} (hF : FW fs fb) (hx : ¬ x = 0) (h : RDS g q (vbits fs fb x)) (h1 : ¬ rdr g (q + 1) 1 0 = 1) : vF fs fb x = fs ∧ vW fs fb x = fb ∧ (vbits fs fb x).length = 1 + 1 + cl fb ∧ rdr g (q + 1 + 1) (cl fb) 0 <<< ((64 - fs - fb).toInt64 &&& 63) = x := by
  obtain ⟨a, c, rfl, rfl, hac⟩ := hF
  obtain ⟨z, t, hz, ht, hzt, p1, p2, p3, p4⟩ := LTT x hx
  unfold vF vW
  unfold vbits at h ⊢
  rw [if_neg hx] at h ⊢
  rw [if_neg hx, if_neg hx]
  by_cases hf : 0 < nI c ∧ ¬ nlzL x < nI a ∧ ¬ nI a + nI c < 64 - ntzL x
  · rw [if_pos hf] at h ⊢
    rw [if_pos hf, if_pos hf]
    have hf2 := (vfit_n hac hz ht hzt).mp hf
    refine ⟨rfl, rfl, ?_, ?_⟩
    · unfold vcb; simp only [List.length_append, nb_len]; omega
    · unfold vcb at h
      have h3 := h.app.2.app.2
      rw [nb_len, nb_len] at h3
      have ecl : cl (nI c) = c := nI_clamp (by omega)
      have e : (64 : Int32) - nI a - nI c = nI (64 - a - c) := by rw [show (64 : Int32) = nI 64 from rfl, pk_sub (by omega), pk_sub (by omega)]
      rw [ecl, e] at h3 ⊢
      exact frame_e hac (by omega) (fun i hi => p1 i (by omega)) (fun i hi => p3 i (by omega)) h3
  · rw [if_neg hf] at h
    unfold vcn at h
    have h2 := h.app.2.app.1
    rw [nb_len] at h2
    exact absurd (rdr_1 h2) h1
theorem vb_new {g : Nat → Int32} {q : Nat} {fs fb : Int32} {x : Int64} (hx : ¬ x = 0) (h : RDS g q (vbits fs fb x)) (h1 : rdr g (q + 1) 1 0 = 1) : ∃ f, (rdr g (q + 1 + 1 + 6) 6 0).toInt32 + 1 = nI f ∧ f ≤ 64 ∧ vF fs fb x = (rdr g (q + 1 + 1) 6 0).toInt32 ∧ vW fs fb x = (rdr g (q + 1 + 1 + 6) 6 0).toInt32 + 1 ∧ (vbits fs fb x).length = 1 + 1 + 6 + 6 + f ∧
    rdr g (q + 1 + 1 + 6 + 6) f 0 <<< ((64 - (rdr g (q + 1 + 1) 6 0).toInt32 - ((rdr g (q + 1 + 1 + 6) 6 0).toInt32 + 1)).toInt64 &&& 63) = x := by
  obtain ⟨z, t, hz, ht, hzt, p1, p2, p3, p4⟩ := LTT x hx
  unfold vF vW
  unfold vbits at h ⊢
  rw [if_neg hx] at h ⊢
  rw [if_neg hx, if_neg hx]
  by_cases hf : 0 < fb ∧ ¬ nlzL x < fs ∧ ¬ fs + fb < 64 - ntzL x
  · rw [if_pos hf] at h
    unfold vcb at h
    have h2 := h.app.2.app.1
    rw [nb_len] at h2
    rw [rdr_0 h2] at h1
    exact absurd h1 (by decide)
  · rw [if_neg hf] at h ⊢
    rw [if_neg hf, if_neg hf]
    have e : (64 : Int32) - ntzL x - nlzL x = nI (64 - t - z) := by rw [hz, ht, show (64 : Int32) = nI 64 from rfl, pk_sub (by omega), pk_sub (by omega)]
    have e1 : (64 : Int32) - ntzL x - nlzL x - 1 = nI (64 - t - z - 1) := by rw [e, show (1 : Int32) = nI 1 from rfl, pk_sub (by omega)]
    have ecl : cl (64 - ntzL x - nlzL x) = 64 - t - z := by rw [e]; exact nI_clamp (by omega)
    unfold vcn at h ⊢
    rw [e1, ecl, hz, nI_l (by omega), nI_l (by omega)] at h
    have g1 := h.app.2.app.2
    rw [nb_len] at g1
    have g2 := g1.app.1
    have g3 := g1.app.2.app.1
    have g4 := g1.app.2.app.2
    rw [nb_len] at g3 g4
    rw [nb_len] at g4
    have r1 : (rdr g (q + 1 + 1) 6 0).toInt32 = nI z := by rw [rdr_lN (by omega) g2, lN_i]
    have r2 : (rdr g (q + 1 + 1 + 6) 6 0).toInt32 + 1 = nI (64 - t - z) := by
      rw [rdr_lN (by omega) g3, lN_i, nI_1]
      congr 1; omega
    refine ⟨64 - t - z, r2, by omega, by rw [r1, hz], by rw [r2, e], ?_, ?_⟩
    · simp only [List.length_append, nb_len]; rw [ecl]; omega
    · rw [r1, r2]
      have e2 : (64 : Int32) - nI z - nI (64 - t - z) = nI (64 - z - (64 - t - z)) := by rw [show (64 : Int32) = nI 64 from rfl, pk_sub (by omega), pk_sub (by omega)]
      have e3 : ntzL x = nI (64 - z - (64 - t - z)) := by rw [ht]; congr 1; omega
      rw [e2]
      rw [e3] at g4
      exact frame_e (by omega) (by omega) p1 (fun i hi => p3 i (by omega)) g4
