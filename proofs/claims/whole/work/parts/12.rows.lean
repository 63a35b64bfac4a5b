/-! the step speaks true of the machine -/
theorem e_i1_of {st : List Value} {f : Int32 → List Value → Prop} (h : e_i1 st f) : ∃ x r, st = .int x :: r ∧ f x r := by
  unfold e_i1 at h
  split at h
  · exact ⟨_, _, rfl, h⟩
  · exact h.elim
theorem e_i2_of {st : List Value} {f : Int32 → Int32 → List Value → Prop} (h : e_i2 st f) : ∃ x y r, st = .int y :: .int x :: r ∧ f x y r := by
  unfold e_i2 at h
  split at h
  · exact ⟨_, _, _, rfl, h⟩
  · exact h.elim
theorem e_l1_of {st : List Value} {f : Int64 → List Value → Prop} (h : e_l1 st f) : ∃ x r, st = .long x :: r ∧ f x r := by
  unfold e_l1 at h
  split at h
  · exact ⟨_, _, rfl, h⟩
  · exact h.elim
theorem e_l2_of {st : List Value} {f : Int64 → Int64 → List Value → Prop} (h : e_l2 st f) : ∃ x y r, st = .long y :: .long x :: r ∧ f x y r := by
  unfold e_l2 at h
  split at h
  · exact ⟨_, _, _, rfl, h⟩
  · exact h.elim
theorem e_li_of {st : List Value} {f : Int64 → Int32 → List Value → Prop} (h : e_li st f) : ∃ x y r, st = .int y :: .long x :: r ∧ f x y r := by
  unfold e_li at h
  split at h
  · exact ⟨_, _, _, rfl, h⟩
  · exact h.elim
theorem e_r1_of {st : List Value} {f : Nat → List Value → Prop} (h : e_r1 st f) : ∃ a r, st = .ref a :: r ∧ f a r := by
  unfold e_r1 at h
  split at h
  · exact ⟨_, _, rfl, h⟩
  · exact h.elim
theorem e_ir_of {st : List Value} {f : Nat → Int32 → List Value → Prop} (h : e_ir st f) : ∃ a i r, st = .int i :: .ref a :: r ∧ f a i r := by
  unfold e_ir at h
  split at h
  · exact ⟨_, _, _, rfl, h⟩
  · exact h.elim
theorem e_iir_of {st : List Value} {f : Nat → Int32 → Int32 → List Value → Prop} (h : e_iir st f) : ∃ a i x r, st = .int x :: .int i :: .ref a :: r ∧ f a i x r := by
  unfold e_iir at h
  split at h
  · exact ⟨_, _, _, _, rfl, h⟩
  · exact h.elim
theorem e_lir_of {st : List Value} {f : Nat → Int32 → Int64 → List Value → Prop} (h : e_lir st f) : ∃ a i x r, st = .long x :: .int i :: .ref a :: r ∧ f a i x r := by
  unfold e_lir at h
  split at h
  · exact ⟨_, _, _, _, rfl, h⟩
  · exact h.elim
theorem e_rir_of {st : List Value} {f : Nat → Int32 → Option Nat → List Value → Prop} (h : e_rir st f) : ∃ a i o r, st = va_rf o :: .int i :: .ref a :: r ∧ f a i o r := by
  unfold e_rir at h
  split at h
  · exact ⟨_, _, some _, _, rfl, h⟩
  · exact ⟨_, _, none, _, rfl, h⟩
  · exact h.elim
theorem e_get_of {L : LV} {j : Nat} (h : e_get L j ≠ .retAddr 0) : (j, e_get L j) ∈ L := by
  unfold e_get at h ⊢
  cases hv : L.lookup j with
  | none => rw [hv] at h; exact absurd rfl h
  | some v => exact lk_mem hv
theorem e_jt_of {pc : Nat} {o : Int} (h : e_jo pc o) : (pc : Int) + o = (e_jt pc o : Int) := (Int.toNat_of_nonneg h).symm
theorem e_ts_in {g : Int → Prop} {d : Int} {x : Int32} : ∀ (os : List Int) (lo : Int), e_ts g d x lo os → ∀ (i : Nat) (o : Int), os[i]? = some o → x.toInt = lo + i → g o
  | [], lo, h, i, o, ho, hx => by simp at ho
  | a :: os, lo, h, 0, o, ho, hx => by
    have : a = o := by simpa using ho
    subst this
    exact h.1 (by omega)
  | a :: os, lo, h, i + 1, o, ho, hx => by
    refine e_ts_in os (lo + 1) (h.2 (by omega)) i o (by simpa using ho) (by omega)
theorem e_ts_out {g : Int → Prop} {d : Int} {x : Int32} : ∀ (os : List Int) (lo : Int), e_ts g d x lo os → (x.toInt < lo ∨ lo + os.length ≤ x.toInt) → g d
  | [], lo, h, hx => h
  | a :: os, lo, h, hx => by
    have hl : ((a :: os).length : Int) = os.length + 1 := by simp
    rw [hl] at hx
    exact e_ts_out os (lo + 1) (h.2 (by omega)) (by omega)
theorem e_ls_of {g : Int → Prop} {d : Int} {x : Int32} : ∀ (ps : List (Int × Int)), e_ls g d x ps → g (Op.lookupswitch.offset ps d x.toInt)
  | [], h => h
  | (a, o) :: ps, h => by
    by_cases q : x.toInt = a
    · have := h.1 q
      simpa [Op.lookupswitch.offset, q] using this
    · have := e_ls_of ps (h.2 q)
      have q2 : ¬ a = x.toInt := fun z => q z.symm
      simpa [Op.lookupswitch.offset, q2] using this
theorem tK_of {own x : Nat} {v : Int32} (h : tK own x = some v) : Cond.constant (rX own) x v ∈ WS := by
  unfold tK at h
  split at h
  · have h2 := List.all_eq_true.mp tKl_ok _ (lk_mem h)
    have e1 : (own * 1000 + x) / 1000 = own := by omega
    have e2 : (own * 1000 + x) % 1000 = x := by omega
    simpa only [e1, e2, decide_eq_true_eq] using h2
  · cases h
theorem tJ_of {own x : Nat} {v : Int64} (h : tJ own x = some v) : Cond.constantLong (rX own) x v ∈ WS := by
  unfold tJ at h
  split at h
  · have h2 := List.all_eq_true.mp tJl_ok _ (lk_mem h)
    have e1 : (own * 1000 + x) / 1000 = own := by omega
    have e2 : (own * 1000 + x) % 1000 = x := by omega
    simpa only [e1, e2, decide_eq_true_eq] using h2
  · cases h
theorem tC_of {own x c : Nat} (h : tC own x = some c) : c < 8 ∧ Cond.classLink (rX own) x (rX c) ∈ WS := by
  unfold tC at h
  split at h
  · have h2 := List.all_eq_true.mp tCl_ok _ (lk_mem h)
    have e1 : (own * 1000 + x) / 1000 = own := by omega
    have e2 : (own * 1000 + x) % 1000 = x := by omega
    simpa only [e1, e2, Bool.and_eq_true, decide_eq_true_eq] using h2
  · cases h
theorem tS_of {own x j : Nat} (h : tS own x = some j) : j < 2 ∧ Cond.fieldLinkNest (rX own) x "NumberRiver" (sn j) "[I" "NumberRiver" ∈ NS := by
  unfold tS at h
  split at h
  · have h2 := List.all_eq_true.mp tSl_ok _ (lk_mem h)
    have e1 : (own * 1000 + x) / 1000 = own := by omega
    have e2 : (own * 1000 + x) % 1000 = x := by omega
    simpa only [e1, e2, Bool.and_eq_true, decide_eq_true_eq] using h2
  · cases h
theorem tF_of {own x f tg : Nat} {fin : Bool} (h : tF own x = some (f, tg, fin)) : f / 32 < 8 ∧ f % 32 < e_nf (f / 32) ∧ (tX (f / 32) (f % 32)).2.2.2 = fin ∧ e_tg (yX (f / 32) (f % 32)) = tg ∧ (tX (f / 32) (f % 32)).1 = rX (f / 32) ∧
    ((own = f / 32 ∧ Cond.fieldLink (rX own) x (tX (f / 32) (f % 32)).1 (tX (f / 32) (f % 32)).2.1 (tX (f / 32) (f % 32)).2.2.1 ∈ WS) ∨ (own ≠ f / 32 ∧ Cond.fieldLinkNest (rX own) x (tX (f / 32) (f % 32)).1 (tX (f / 32) (f % 32)).2.1 (tX (f / 32) (f % 32)).2.2.1 "NumberRiver" ∈ NS)) := by
  unfold tF at h
  split at h
  · have h2 := List.all_eq_true.mp tFl_ok _ (lk_mem h)
    have e1 : (own * 1000 + x) / 1000 = own := by omega
    have e2 : (own * 1000 + x) % 1000 = x := by omega
    simp only [f_ok, e1, e2, Bool.and_eq_true, decide_eq_true_eq] at h2
    obtain ⟨-, ⟨⟨⟨⟨a1, a2⟩, a3⟩, a4⟩, a5⟩, a6⟩ := h2
    refine ⟨a1, a2, a3, a4, a5, ?_⟩
    by_cases q : own = f / 32
    · rw [if_pos q] at a6
      exact Or.inl ⟨q, by simpa using a6⟩
    · rw [if_neg q] at a6
      exact Or.inr ⟨q, by simp at a6; exact a6⟩
  · cases h
section SN2
variable {p : Program} {l : Launch} {e : Env} {R : Room} {s : State} {m : MethodId} {args : Array Value} {below : List Frame} {meth : Method} {c : Code} {H : Heap} {locs : List Loc} {cells slots : Nat} {Q : State → Prop}
variable {cc : ByteArray} {pc : Nat} {ls : Array Slot} {rest : List Value} {E : Ev} {M : HM} {own : Nat}
theorem W_eqc {g : JFrame} {c2 s2 : Nat} (h1 : cells = c2) (h2 : slots = s2) (k : W p l e R s m args below meth c H locs c2 s2 Q g) : W p l e R s m args below meth c H locs cells slots Q g := by
  subst h1; subst h2; exact k
theorem see_ti {H1 : Heap} {a : Nat} {j x : Int32} (hS : Sees E M H) (h0 : mK M a = 9) (e1 : H1[a]? = some ((vp_cell (E.2.1 0) (mN M a, .inl (aI M a))).setSlot j.toNatClampNeg (.int x))) (oq : ∀ q, q ≠ a → H1[q]? = H[q]?) : Sees E (tI M a j.toNatClampNeg x) H1 := by
  refine hS.set (a := a) ⟨by omega, by omega⟩ rfl rfl (fun b hb => ?_) (fun b hb => ?_) ?_ oq
  · funext i; simp [haI, hb]
  · refine ce_eq rfl rfl ?_ rfl rfl (fun _ => rfl) (fun _ => rfl) (fun _ => rfl)
    funext i; simp [haI, hb]
  · have : e_ce E.2.1 (tI M a j.toNatClampNeg x) a = .inl (E.2.1 0, mN M a, .inl (aI (tI M a j.toNatClampNeg x) a)) := by
      unfold e_ce; rw [if_pos (by rw [hmK.2.2.2.1]; exact h0)]; rfl
    rw [this]
    show H1[a]? = some (vp_cell _ _)
    rw [e1, vp_cell_i, vp_cell_i, arrV_store]
    congr 2
    funext q
    by_cases hq : q = j.toNatClampNeg
    · simp [updV, haI, hq]
    · simp [updV, haI, hq]
theorem see_tl {H1 : Heap} {a : Nat} {j : Int32} {x : Int64} (hS : Sees E M H) (h0 : mK M a = 10) (e1 : H1[a]? = some ((vp_cell (E.2.1 1) (mN M a, .inr (.inl (aL M a)))).setSlot j.toNatClampNeg (.long x))) (oq : ∀ q, q ≠ a → H1[q]? = H[q]?) : Sees E (tL M a j.toNatClampNeg x) H1 := by
  refine hS.set (a := a) ⟨by omega, by omega⟩ rfl rfl (fun b hb => rfl) (fun b hb => ?_) ?_ oq
  · refine ce_eq rfl rfl rfl ?_ rfl (fun _ => rfl) (fun _ => rfl) (fun _ => rfl)
    funext i; simp [haL, hb]
  · have : e_ce E.2.1 (tL M a j.toNatClampNeg x) a = .inl (E.2.1 1, mN M a, .inr (.inl (aL (tL M a j.toNatClampNeg x) a))) := by
      unfold e_ce; rw [if_neg (by rw [hmK.2.2.2.2.1]; omega), if_pos (by rw [hmK.2.2.2.2.1]; exact h0)]; rfl
    rw [this]
    show H1[a]? = some (vp_cell _ _)
    rw [e1, vp_cell_l, vp_cell_l, arrV_store]
    congr 2
    funext q
    by_cases hq : q = j.toNatClampNeg
    · simp [updV, haL, hq]
    · simp [updV, haL, hq]
theorem see_tr {H1 : Heap} {a : Nat} {j : Int32} {x : Option Nat} (hS : Sees E M H) (h0 : mK M a = 11 ∨ mK M a = 12 ∨ mK M a = 13) (e1 : H1[a]? = some ((vp_cell (E.2.1 (mK M a - 9)) (mN M a, .inr (.inr (.inr (.inr (aR M a)))))).setSlot j.toNatClampNeg (va_rf x))) (oq : ∀ q, q ≠ a → H1[q]? = H[q]?) : Sees E (tR M a j.toNatClampNeg x) H1 := by
  refine hS.set (a := a) ⟨by omega, by omega⟩ rfl rfl (fun b hb => rfl) (fun b hb => ?_) ?_ oq
  · refine ce_eq rfl rfl rfl rfl ?_ (fun _ => rfl) (fun _ => rfl) (fun _ => rfl)
    funext i; simp [haR, hb]
  · have : e_ce E.2.1 (tR M a j.toNatClampNeg x) a = .inl (E.2.1 (mK M a - 9), mN M a, .inr (.inr (.inr (.inr (aR (tR M a j.toNatClampNeg x) a))))) := by
      unfold e_ce
      rw [hmK.2.2.2.2.2.1, hmN.2.2.2.2.2.1]
      rcases h0 with h0 | h0 | h0 <;> simp [h0]
    rw [this]
    show H1[a]? = some (vp_cell _ _)
    rw [e1, vp_cell_q, vp_cell_q, arrV_store]
    congr 2
    funext q
    by_cases hq : q = j.toNatClampNeg
    · simp [updV, haR, hq]
    · simp [updV, haR, hq]
theorem w_aast {a : Nat} {j : Int32} {o : Option Nat} (hx : p.tables.exec = Jvm.exec) (hb : c.code = cc) (hT : Tbl E s) (hS : Sees E M H) (h0 : mK M a = 11 ∨ mK M a = 12 ∨ mK M a = 13) (hin : vp_in j (mN M a)) (hob : ∀ b, o = some b → mK M b = e_kc (mK M a) + 1) (hdg : decode cc pc = .ok (.aastore, 1))
    (kk : ∀ H' : Heap, H'[a]? = some ((vp_cell (E.2.1 (mK M a - 9)) (mN M a, .inr (.inr (.inr (.inr (aR M a)))))).setSlot j.toNatClampNeg (va_rf o)) → H'.size = H.size → (∀ q, q ≠ a → H'[q]? = H[q]?) → W p l e R s m args below meth c H' (locs ++ [⟨a, j.toNatClampNeg⟩]) cells slots Q (F0 m (pc + 1) ls rest)) :
    W p l e R s m args below meth c H locs cells slots Q (F0 m pc ls (va_rf o :: .int j :: .ref a :: rest)) := by
  have hq := hS.q h0
  have hlt : j.toNatClampNeg < mN M a := Nat.not_le.mp fun q => hin (Or.inr q)
  have hn0 : ¬ j < 0 := fun q => hin (Or.inl q)
  have key : ∃ (t0 cn : Nat), e_kc (mK M a) = cn ∧ cn < 8 ∧ (e_tys E.2.1)[t0]? = some (E.2.1 (mK M a - 9), .object (rX cn)) := by
    rcases h0 with h0 | h0 | h0 <;> rw [h0]
    · exact ⟨2, 0, rfl, by decide, rfl⟩
    · exact ⟨3, 4, rfl, by decide, rfl⟩
    · exact ⟨4, 5, rfl, by decide, rfl⟩
  obtain ⟨t0, cn, hcn, hcn8, ht0⟩ := key
  cases o with
  | none =>
    refine va_WaastN (C := rX cn) hx hb hq ((hT.1.2 t0 _ ht0).1 _ (fun z => va_rf (aR M a z))) (fun h => by cases h) (by show ¬ (j < 0 ∨ (arrV _ _ _).slots.size ≤ _); rw [arrV_size]; exact hin) rfl rfl hdg kk
  | some b =>
    have hbk := hob b rfl
    rw [hcn] at hbk
    obtain ⟨r', hr', cellV, g1, g2, g3, -⟩ := hS.o hbk hcn8
    have hcls := (hT.1.1 cn _ (vw_at cn hcn8)).2
    obtain ⟨kA, comp, k1, k2, k3, -⟩ := (hT.1.2 t0 _ ht0).2
    have hcomp : comp = E.1.1 cn := Option.some.inj (k3.symm.trans hcls.1)
    subst hcomp
    obtain ⟨kC, hkC, -⟩ := hcls.2
    exact W.aast hx hb hq (fun q h => by cases h) (fun h => by cases h) k1 k2 rfl hkC ⟨hn0, by show _ < (arrV _ _ _).slots.size; rw [arrV_size]; exact hlt⟩ g1 (fun q h => by rw [g3] at h; cases h) (by rw [g2]; exact hkC) (by rw [g2]; exact va_assign hcls) rfl rfl hdg kk
theorem w_get {x f tg a : Nat} {fin : Bool} (hx : p.tables.exec = Jvm.exec) (hb : c.code = cc) (hown : s.vm.findClass (rX own) = some m.cls) (hts : ∀ w ∈ WS, w.before args s = true) (hT : Tbl E s) (hS : Sees E M H) (hf : tF own x = some (f, tg, fin)) (h0 : mK M a = f / 32 + 1) (hdg : decode cc pc = .ok (.getfield x, 3))
    (kk : W p l e R s m args below meth c H locs cells slots Q (F0 m (pc + 3) ls (e_fv M f tg a :: rest))) : W p l e R s m args below meth c H locs cells slots Q (F0 m pc ls (.ref a :: rest)) := by
  obtain ⟨h1, h2, h3, h4, h5, h6⟩ := tF_of hf
  have hP := p_one (hS.o h0 h1)
  have hv : (e_fs M (f / 32) a)[f % 32]? = some (e_fv M f tg a) := by rw [fs_at h2, h4, show 32 * (f / 32) + f % 32 = f by omega]
  rcases h6 with ⟨-, h6⟩ | ⟨-, h6⟩
  · exact va_get (D := E.1) hx hb hts (uw_at _ h1) hown hT.1 hP 0 rfl (vw_at _ h1) _ h2 (hts _ h6) (fun _ h9 => h9) hv hdg kk
  · exact va_getN (D := E.1) hx hb hts (uw_at _ h1) hown hT.1 hP 0 rfl (vw_at _ h1) _ h2 (va_Nw.use rfl (hT.2.1 _ h6)) (fun _ h9 => h9) hv hdg kk
def PutM (M : HM) (f tg a : Nat) (v : Value) (M' : HM) : Prop := (tg = 0 ∧ ∃ x, v = .int x ∧ M' = sI M f a x) ∨ (tg = 1 ∧ ∃ x, v = .long x ∧ M' = sL M f a x) ∨ (tg = 2 ∧ ∃ x, v = va_rf x ∧ M' = sR M f a x)
theorem e_pt_of {M : HM} {f tg : Nat} {st : List Value} {g : List Value → HM → Prop} (h : e_pt M f tg st g) : ∃ v a r M', st = v :: .ref a :: r ∧ mK M a = f / 32 + 1 ∧ g r M' ∧ PutM M f tg a v M' := by
  unfold e_pt at h
  split at h
  · exact ⟨_, _, _, _, rfl, h.1, h.2, Or.inl ⟨rfl, _, rfl, rfl⟩⟩
  · exact ⟨_, _, _, _, rfl, h.1, h.2, Or.inr (Or.inl ⟨rfl, _, rfl, rfl⟩)⟩
  · exact ⟨_, _, _, _, rfl, h.1, h.2, Or.inr (Or.inr ⟨rfl, some _, rfl, rfl⟩)⟩
  · exact ⟨_, _, _, _, rfl, h.1, h.2, Or.inr (Or.inr ⟨rfl, none, rfl, rfl⟩)⟩
  · exact h.elim
theorem PutM.K {M M' : HM} {f tg a : Nat} {v : Value} (h : PutM M f tg a v M') : mK M' = mK M ∧ mN M' = mN M ∧ aI M' = aI M ∧ ∀ (cA : Nat → ClassId) b, b ≠ a → e_ce cA M' b = e_ce cA M b := by
  rcases h with ⟨-, x, -, rfl⟩ | ⟨-, x, -, rfl⟩ | ⟨-, x, -, rfl⟩
  · exact ⟨rfl, rfl, rfl, fun cA b hb => ce_eq rfl rfl rfl rfl rfl (fun g => by simp [hmI, hb]) (fun _ => rfl) (fun _ => rfl)⟩
  · exact ⟨rfl, rfl, rfl, fun cA b hb => ce_eq rfl rfl rfl rfl rfl (fun _ => rfl) (fun g => by simp [hmL, hb]) (fun _ => rfl)⟩
  · exact ⟨rfl, rfl, rfl, fun cA b hb => ce_eq rfl rfl rfl rfl rfl (fun _ => rfl) (fun _ => rfl) (fun g => by simp [hmR, hb])⟩
theorem PutM.fv {M M' : HM} {f tg a : Nat} {v : Value} (h : PutM M f tg a v M') (g t : Nat) (hgt : g = f → t = tg) (ht2 : t ≤ 2) : e_fv M' g t a = if g = f then v else e_fv M g t a := by
  by_cases e : g = f
  · have := hgt e
    subst e; subst this
    rw [if_pos rfl]
    rcases h with ⟨rfl, x, rfl, rfl⟩ | ⟨rfl, x, rfl, rfl⟩ | ⟨rfl, x, rfl, rfl⟩
    · simp [e_fv, hmI]
    · simp [e_fv, hmL]
    · simp [e_fv, hmR]
  · rw [if_neg e]
    rcases h with ⟨rfl, x, rfl, rfl⟩ | ⟨rfl, x, rfl, rfl⟩ | ⟨rfl, x, rfl, rfl⟩
    · unfold e_fv; split <;> simp [hmI, hmL, hmR, e]
    · unfold e_fv; split <;> simp [hmI, hmL, hmR, e]
    · unfold e_fv; split <;> simp [hmI, hmL, hmR, e]
theorem tg_le (t : FieldType) : e_tg t ≤ 2 := by unfold e_tg; split <;> omega
theorem PutM.fits {M M' : HM} {f tg a : Nat} {v : Value} {ty : FieldType} (h : PutM M f tg a v M') (htg : e_tg ty = tg) (hg : e_gt ty = true) : narrow ty v = v ∧ fits ty v = true := by
  rcases h with ⟨rfl, x, rfl, rfl⟩ | ⟨rfl, x, rfl, rfl⟩ | ⟨rfl, x, rfl, rfl⟩
  · cases ty <;> first | exact ⟨rfl, rfl⟩ | (simp [e_tg] at htg) | (simp [e_gt] at hg)
  · cases ty <;> first | exact ⟨rfl, rfl⟩ | (simp [e_tg] at htg) | (simp [e_gt] at hg)
  · cases ty <;> first | (simp [e_tg] at htg; done) | (simp [e_gt] at hg; done) | (cases x <;> exact ⟨rfl, rfl⟩)
theorem w_put {x f tg a : Nat} {fin ini : Bool} {v : Value} {M' : HM} (hx : p.tables.exec = Jvm.exec) (hb : c.code = cc) (hown : s.vm.findClass (rX own) = some m.cls) (hts : ∀ w ∈ WS, w.before args s = true) (hT : Tbl E s) (hS : Sees E M H) (hf : tF own x = some (f, tg, fin)) (hfin : fin = false ∨ (ini = true ∧ own = f / 32)) (hini : ini = true → meth.name = "<init>") (h0 : mK M a = f / 32 + 1) (hM : PutM M f tg a v M') (hdg : decode cc pc = .ok (.putfield x, 3))
    (kk : ∀ (H1 : Heap) (i : Nat), H1.size = H.size → Sees E M' H1 → (∀ q, q ≠ a → H1[q]? = H[q]?) → mK M' = mK M → W p l e R s m args below meth c H1 (locs ++ [⟨a, i⟩]) cells slots Q (F0 m (pc + 3) ls rest)) : W p l e R s m args below meth c H locs cells slots Q (F0 m pc ls (v :: .ref a :: rest)) := by
  obtain ⟨h1, h2, h3, h4, h5, h6⟩ := tF_of hf
  have hc := vw_at _ h1
  have hap := va_apart (own := rX own) hts (uw_at _ h1) (yX (f / 32)) (ty_at _ h1) (nm_at _ h1) hT.1 hc
  obtain ⟨r, r1, cell, q1, q2, q3, q4⟩ := hS.o h0 h1
  have hr : r = (rX (f / 32), tX (f / 32), e_nf (f / 32)) := Option.some.inj (r1.symm.trans hc)
  subst hr
  obtain ⟨hSl, hfc, kC, hkC, hkind⟩ := hT.1.1 _ _ hc
  obtain ⟨cf, kf, fi, fd, hi, hsl⟩ := hSl _ h2
  have hlay := hts _ (uw_at _ h1 _ (u_in_lay h2))
  unfold u_lay at hlay
  have hst := (u_facts hfc hkC (u_lays hts (uw_at _ h1) h2) hi).1
  obtain ⟨hn, hfit⟩ := hM.fits h4 (gt_at _ h1 _ h2)
  have done : ∀ (H1 : Heap), H1[a]? = some (cell.setSlot fd.slot v) → H1.size = H.size → (∀ q, q ≠ a → H1[q]? = H[q]?) → W p l e R s m args below meth c H1 (locs ++ [⟨a, fd.slot⟩]) cells slots Q (F0 m (pc + 3) ls rest) := by
    intro H1 e1 z1 oq
    obtain ⟨k1, k2, k3, k4⟩ := hM.K
    refine kk H1 fd.slot z1 (hS.set (a := a) ⟨by omega, by omega⟩ k1 k2 (fun b _ => by rw [k3]) (k4 _) ?_ oq) oq k1
    have ece : e_ce E.2.1 M' a = .inr (f / 32, e_fs M' (f / 32) a) := by
      unfold e_ce
      rw [k1, if_neg (by omega), if_neg (by omega), if_neg (by omega), if_neg (by omega), if_neg (by omega), h0]
      rfl
    rw [ece]
    rw [hsl] at e1
    refine ⟨_, hc, t_OB.to (V := updV (vp_V (e_fs M (f / 32) a)) (f % 32) v) ⟨_, e1, q2, q3, t_set q4 hap h2 v⟩ (fun j hj => ?_)⟩
    have g1 : vp_V (e_fs M' (f / 32) a) j = e_fv M' (32 * (f / 32) + j) (e_tg (yX (f / 32) j)) a := by simp [vp_V, fs_at hj]
    have g2 : vp_V (e_fs M (f / 32) a) j = e_fv M (32 * (f / 32) + j) (e_tg (yX (f / 32) j)) a := by simp [vp_V, fs_at hj]
    rw [g1, hM.fv _ _ (fun z => by rw [← h4]; congr 2; omega) (tg_le _)]
    unfold updV
    by_cases ej : j = f % 32
    · rw [if_pos ej, if_pos (by omega)]
    · rw [if_neg ej, if_neg (by omega), g2]
  have hin : s.fitsSlot (E.1.1 (f / 32)) .none fd.slot v = true ∧ narrow fd.type v = v := by
    have := u_fits hfc hkC hkind (u_lays hts (uw_at _ h1) h2) hi (ty_at _ h1 _ h2) hn hfit
    exact ⟨this.2, this.1⟩
  by_cases ef : fin = true
  · subst ef
    rcases hfin with hfin | ⟨hi2, ho⟩
    · cases hfin
    · rw [if_pos h3] at hlay
      rcases h6 with ⟨-, h6⟩ | ⟨h6, -⟩
      · have hcf : m.cls = cf := by
          obtain ⟨_, _, c', _, _, _, -, -, hf', -, -, -, hown2, -⟩ := Cond.laysFinal_spec hlay
          have e1 : c' = cf := by have := hi.symm.trans hf'; simp at this; exact this.1.symm
          rw [h5, ← ho] at hown2
          rw [← e1]; exact Option.some.inj (hown.symm.trans hown2)
        exact W.putFinK hx hb hown (hts _ h6) hi hst hcf (hini hi2) (by rw [q2]; exact ⟨hin.2, hin.1⟩) q1 q3 (by rw [hsl]; exact k2_hasslot (q4 _ h2)) rfl rfl hdg done
      · exact absurd ho h6
  · have ef2 : fin = false := by cases fin <;> simp_all
    rw [if_neg (by rw [h3, ef2]; decide)] at hlay
    have hsd := u_store hfc hkC hkind hlay hi (ty_at _ h1 _ h2) hn hfit
    rcases h6 with ⟨-, h6⟩ | ⟨-, h6⟩
    · exact W.putK hx hb (f := fd) ⟨hown, hts _ h6, ⟨_, _, _, hi⟩, hst⟩ (by rw [q2]; exact hsd) q1 q3 (by rw [hsl]; exact k2_hasslot (q4 _ h2)) rfl rfl hdg done
    · exact va_WputK hx hb (f := fd) hown (va_Nw.use rfl (hT.2.1 _ h6)) hi hst (by rw [q2]; exact hsd) q1 q3 (by rw [hsl]; exact k2_hasslot (q4 _ h2)) rfl rfl hdg done
theorem w_gets {x j : Nat} (hx : p.tables.exec = Jvm.exec) (hb : c.code = cc) (hown : s.vm.findClass (rX own) = some m.cls) (hT : Tbl E s) (hS : Sees E M H) (hj : tS own x = some j) (hdg : decode cc pc = .ok (.getstatic x, 3))
    (kk : ∀ t, mK M t = 20 → mN M t = 5 → aI M t = e_sa j → W p l e R s m args below meth c H locs cells slots Q (F0 m (pc + 3) ls (.ref t :: rest))) : W p l e R s m args below meth c H locs cells slots Q (F0 m pc ls rest) := by
  obtain ⟨h1, h2⟩ := tS_of hj
  obtain ⟨cf, kf, fi, f, a1, a2, a3, a4, a5⟩ := hT.2.2.2.1 j h1
  obtain ⟨g1, g2, g3, g4⟩ := hS.2.2.2 j h1
  exact va_WgetsN hx hb hown (va_Nw.use rfl (hT.2.1 _ h2)) a1 a2 a3 a4 hS.2.1.2 hT.2.2.2.2.1 a5 rfl hdg (kk _ g1 g2 g3)
theorem w_new {x cn : Nat} (hx : p.tables.exec = Jvm.exec) (hb : c.code = cc) (hown : s.vm.findClass (rX own) = some m.cls) (hts : ∀ w ∈ WS, w.before args s = true) (hT : Tbl E s) (hS : Sees E M H) (hc : tC own x = some cn) (hcells : cells + 1 ≤ R.cells) (hslots : slots + e_nf cn ≤ R.slots) (hdg : decode cc pc = .ok (.new x, 3))
    (kk : ∀ H1 : Heap, H1.size = H.size + 1 → Sees E (nO M cn H.size) H1 → (∀ q, q < H.size → H1[q]? = H[q]?) → W p l e R s m args below meth c H1 locs (cells + 1) (slots + e_nf cn) Q (F0 m (pc + 3) ls (.ref H.size :: rest))) : W p l e R s m args below meth c H locs cells slots Q (F0 m pc ls rest) := by
  obtain ⟨h1, h2⟩ := tC_of hc
  have hKn := hT.1.1 cn _ (vw_at cn h1)
  refine W.newcK hx hb hown (hts _ h2) (hts _ (in_at cn h1).1) (hts _ (in_at cn h1).2) rfl hdg hcells hslots hKn.2.1 rfl fun H1 kC hkC e1 z1 o1 => ?_
  refine kk H1 z1 (hS.new (t := cn + 1) (by omega) (fun b => rfl) (fun b hb => rfl) (fun b hb => rfl) (fun b hb => ?_) ?_ o1) o1
  · exact ce_eq (by simp [hmK, hb]) rfl rfl rfl rfl (fun g => by simp [hmI, hb]) (fun g => by simp [hmL, hb]) (fun g => by simp [hmR, hb])
  · have ece : e_ce E.2.1 (nO M cn H.size) H.size = .inr (cn, e_fs (nO M cn H.size) cn H.size) := by
      unfold e_ce
      rw [hmK.2.2.2.2.2.2.1, if_pos rfl, if_neg (by omega), if_neg (by omega), if_neg (by omega), if_neg (by omega), if_neg (by omega)]
      rfl
    rw [ece]
    refine ⟨_, vw_at cn h1, (u_born (yX cn) hts (uw_at cn h1) hKn hkC e1 (ty_at cn h1)).to (fun j hj => ?_)⟩
    have g1 : vp_V (e_fs (nO M cn H.size) cn H.size) j = e_fv (nO M cn H.size) (32 * cn + j) (e_tg (yX cn j)) H.size := by simp [vp_V, fs_at hj]
    rw [g1]
    have g2 := gt_at cn h1 j hj
    cases hy : yX cn j <;> rw [hy] at g2 <;> first | (simp [e_gt] at g2; done) | (simp [e_fv, e_tg, hmI, hmL, hmR, defaultValue, va_rf])
theorem see_na0 {H1 : Heap} {z : Nat} (hS : Sees E M H) (e1 : H1[H.size]? = some (arrV (E.2.1 0) z (fun _ => defaultValue (newarray.typeOf .int)))) (oq : ∀ q, q < H.size → H1[q]? = H[q]?) : Sees E (nA M 9 H.size z) H1 := by
  refine hS.new (t := 9) (by omega) (fun b => rfl) (fun b hb => by simp [hmN, hb]) (fun b hb => ?_) (fun b hb => ?_) ?_ oq
  · funext i; simp [haI, hb]
  · exact ce_eq (by simp [hmK, hb]) (by simp [hmN, hb]) (by funext i; simp [haI, hb]) (by funext i; simp [haL, hb]) (by funext i; simp [haR, hb]) (fun _ => rfl) (fun _ => rfl) (fun _ => rfl)
  · have ece : e_ce E.2.1 (nA M 9 H.size z) H.size = .inl (E.2.1 0, z, .inl (fun _ => 0)) := by
      unfold e_ce
      rw [if_pos (by simp [hmK])]
      have : aI (nA M 9 H.size z) H.size = fun _ => 0 := by funext i; simp [haI]
      rw [this]
      simp [hmN]
    rw [ece]
    show H1[H.size]? = some (vp_cell _ _)
    rw [e1, vp_cell_i]
    rfl
theorem see_na1 {H1 : Heap} {z : Nat} (hS : Sees E M H) (e1 : H1[H.size]? = some (arrV (E.2.1 1) z (fun _ => defaultValue (newarray.typeOf .long)))) (oq : ∀ q, q < H.size → H1[q]? = H[q]?) : Sees E (nA M 10 H.size z) H1 := by
  refine hS.new (t := 10) (by omega) (fun b => rfl) (fun b hb => by simp [hmN, hb]) (fun b hb => ?_) (fun b hb => ?_) ?_ oq
  · funext i; simp [haI, hb]
  · exact ce_eq (by simp [hmK, hb]) (by simp [hmN, hb]) (by funext i; simp [haI, hb]) (by funext i; simp [haL, hb]) (by funext i; simp [haR, hb]) (fun _ => rfl) (fun _ => rfl) (fun _ => rfl)
  · have ece : e_ce E.2.1 (nA M 10 H.size z) H.size = .inl (E.2.1 1, z, .inr (.inl (fun _ => 0))) := by
      unfold e_ce
      rw [if_neg (by simp [hmK]), if_pos (by simp [hmK])]
      have : aL (nA M 10 H.size z) H.size = fun _ => 0 := by funext i; simp [haL]
      rw [this]
      simp [hmN]
    rw [ece]
    show H1[H.size]? = some (vp_cell _ _)
    rw [e1, vp_cell_l]
    rfl
theorem see_naq {H1 : Heap} {z t : Nat} (ht : t = 11 ∨ t = 12 ∨ t = 13) (hS : Sees E M H) (e1 : H1[H.size]? = some (arrV (E.2.1 (t - 9)) z (fun _ => .null))) (oq : ∀ q, q < H.size → H1[q]? = H[q]?) : Sees E (nA M t H.size z) H1 := by
  refine hS.new (t := t) (by omega) (fun b => rfl) (fun b hb => by simp [hmN, hb]) (fun b hb => ?_) (fun b hb => ?_) ?_ oq
  · funext i; simp [haI, hb]
  · exact ce_eq (by simp [hmK, hb]) (by simp [hmN, hb]) (by funext i; simp [haI, hb]) (by funext i; simp [haL, hb]) (by funext i; simp [haR, hb]) (fun _ => rfl) (fun _ => rfl) (fun _ => rfl)
  · have ece : e_ce E.2.1 (nA M t H.size z) H.size = .inl (E.2.1 (t - 9), z, .inr (.inr (.inr (.inr (fun _ => none))))) := by
      have h3 : aR (nA M t H.size z) H.size = fun _ => none := by funext i; simp [haR]
      have h1 : mK (nA M t H.size z) H.size = t := by simp [hmK]
      have h2 : mN (nA M t H.size z) H.size = z := by simp [hmN]
      unfold e_ce
      rw [h1, h2, h3]
      rcases ht with rfl | rfl | rfl <;> rfl
    rw [ece]
    show H1[H.size]? = some (vp_cell _ _)
    rw [e1, vp_cell_q]
    rfl
theorem w_anew {x cn : Nat} {z : Int32} (hx : p.tables.exec = Jvm.exec) (hb : c.code = cc) (hown : s.vm.findClass (rX own) = some m.cls) (hts : ∀ w ∈ WS, w.before args s = true) (hT : Tbl E s) (hS : Sees E M H) (hc : tC own x = some cn) (hcn : cn = 0 ∨ cn = 4 ∨ cn = 5) (z1 : ¬ z < 0) (z2 : z.toNatClampNeg ≤ 1000000) (hcells : cells + 1 ≤ R.cells) (hslots : slots + z.toNatClampNeg ≤ R.slots) (hdg : decode cc pc = .ok (.anewarray x, 3))
    (kk : ∀ H1 : Heap, H1.size = H.size + 1 → Sees E (nA M (e_ak cn) H.size z.toNatClampNeg) H1 → (∀ q, q < H.size → H1[q]? = H[q]?) → W p l e R s m args below meth c H1 locs (cells + 1) (slots + z.toNatClampNeg) Q (F0 m (pc + 3) ls (.ref H.size :: rest))) : W p l e R s m args below meth c H locs cells slots Q (F0 m pc ls (.int z :: rest)) := by
  obtain ⟨h1, h2⟩ := tC_of hc
  have key : ∃ t0 : Nat, va_AO (rX cn) s ∧ (e_ak cn = 11 ∨ e_ak cn = 12 ∨ e_ak cn = 13) ∧ (e_tys E.2.1)[t0]? = some (E.2.1 (e_ak cn - 9), FieldType.object (rX cn)) := by
    rcases hcn with rfl | rfl | rfl
    · exact ⟨2, hT.2.2.1.1, by decide, rfl⟩
    · exact ⟨3, hT.2.2.1.2.1, by decide, rfl⟩
    · exact ⟨4, hT.2.2.1.2.2, by decide, rfl⟩
  obtain ⟨t0, hao, hak, ht0⟩ := key
  refine W.anew hx hb hown (hts _ h2) (va_AO.use hao) rfl hdg rfl z1 (by omega) hcells hslots fun cB kA comp f1 f2 f3 f4 => ?_
  obtain ⟨kA', comp', k1, k2, k3, k4⟩ := (hT.1.2 t0 _ ht0).2
  have hcB : cB = E.2.1 (e_ak cn - 9) := Option.some.inj (f1.symm.trans k4)
  subst hcB
  generalize hH1 : H.push ({ cls := E.2.1 (e_ak cn - 9), slots := Array.replicate z.toNatClampNeg .null, vm := .none } : Cell) = H1
  have s1 : H1.size = H.size + 1 := by rw [← hH1, Array.size_push]
  have e1 : H1[H.size]? = some (arrV (E.2.1 (e_ak cn - 9)) z.toNatClampNeg (fun _ => .null)) := by rw [← hH1, Array.getElem?_push_size, ← arrV_new]
  have oq : ∀ q, q < H.size → H1[q]? = H[q]? := fun q hq => by rw [← hH1, Array.getElem?_push, if_neg (Nat.ne_of_lt hq)]
  exact kk H1 s1 (see_naq hak hS e1 oq) oq
end SN2
