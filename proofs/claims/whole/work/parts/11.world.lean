/-! the classes by number, the words, the world -/
def rX (c : Nat) : String := match c with
  | 0 => RX0
  | 1 => RX1
  | 2 => RX2
  | 3 => RX3
  | 4 => RX4
  | 5 => RX5
  | 6 => RX6
  | 7 => RX7
  | 8 => "NumberRiverLaw"
  | 9 => "java/lang/Integer"
  | 10 => "java/lang/Long"
  | 11 => "java/lang/Math"
  | _ => "java/util/Arrays"
def tX (c : Nat) : u_T := match c with
  | 0 => TX0
  | 1 => TX1
  | 2 => TX2
  | 3 => TX3
  | 4 => TX4
  | 5 => TX5
  | 6 => TX6
  | _ => TX7
def yX (c : Nat) : Nat → FieldType := match c with
  | 0 => tyX0
  | 1 => tyX1
  | 2 => tyX2
  | 3 => tyX3
  | 4 => tyX4
  | 5 => tyX5
  | 6 => tyX6
  | _ => tyX7
theorem lt8 {P : Nat → Prop} (h0 : P 0) (h1 : P 1) (h2 : P 2) (h3 : P 3) (h4 : P 4) (h5 : P 5) (h6 : P 6) (h7 : P 7) : ∀ c, c < 8 → P c
  | 0, _ => h0
  | 1, _ => h1
  | 2, _ => h2
  | 3, _ => h3
  | 4, _ => h4
  | 5, _ => h5
  | 6, _ => h6
  | 7, _ => h7
  | n + 8, h => absurd h (by omega)
theorem vw_at : ∀ c, c < 8 → vwCl[c]? = some (rX c, tX c, e_nf c) := lt8 rfl rfl rfl rfl rfl rfl rfl rfl
theorem nm_at : ∀ c, c < 8 → ∀ a, a < e_nf c → ∀ b, b < e_nf c → a ≠ b → (tX c a).2.1 ≠ (tX c b).2.1 := lt8 nmX0 nmX1 nmX2 nmX3 nmX4 nmX5 nmX6 nmX7
theorem ty_at : ∀ c, c < 8 → ∀ k, k < e_nf c → parseFieldDescriptor (tX c k).2.2.1 = some (yX c k) := lt8 tyX0_ok tyX1_ok tyX2_ok tyX3_ok tyX4_ok tyX5_ok tyX6_ok tyX7_ok
def WS : List Cond := lw_tbl.filter goodWord
def isNest (w : Cond) : Bool := match w with
  | .fieldLinkNest _ _ _ _ _ _ => true
  | .methodLinkNest _ _ _ _ => true
  | _ => false
def NS : List Cond := tables_1.filter isNest
theorem ws_in {w : Cond} (h : w ∈ tables_1) (hg : goodWord w = true) : w ∈ WS := List.mem_filter.mpr ⟨List.mem_append_right _ h, hg⟩
theorem uw_at : ∀ c, c < 8 → ∀ w ∈ u_ws (rX c) (tX c) (e_nf c), w ∈ WS := lt8 (by decide +kernel) (by decide +kernel) (by decide +kernel) (by decide +kernel) (by decide +kernel) (by decide +kernel) (by decide +kernel) (by decide +kernel)
def e_tg (t : FieldType) : Nat := match t with
  | .int => 0
  | .long => 1
  | _ => 2
def e_gt (t : FieldType) : Bool := match t with
  | .int => true
  | .long => true
  | .array _ => true
  | .object _ => true
  | _ => false
theorem gt_at : ∀ c, c < 8 → ∀ k, k < e_nf c → e_gt (yX c k) = true := lt8 (by decide +kernel) (by decide +kernel) (by decide +kernel) (by decide +kernel) (by decide +kernel) (by decide +kernel) (by decide +kernel) (by decide +kernel)
/-- the tables speak true -/
def f_ok (q : Nat × Nat × Nat × Bool) : Bool :=
  decide (q.2.1 / 32 < 8) && decide (q.2.1 % 32 < e_nf (q.2.1 / 32)) && decide ((tX (q.2.1 / 32) (q.2.1 % 32)).2.2.2 = q.2.2.2) && decide (e_tg (yX (q.2.1 / 32) (q.2.1 % 32)) = q.2.2.1) && decide ((tX (q.2.1 / 32) (q.2.1 % 32)).1 = rX (q.2.1 / 32)) &&
  (if q.1 / 1000 = q.2.1 / 32 then decide (Cond.fieldLink (rX (q.1 / 1000)) (q.1 % 1000) (tX (q.2.1 / 32) (q.2.1 % 32)).1 (tX (q.2.1 / 32) (q.2.1 % 32)).2.1 (tX (q.2.1 / 32) (q.2.1 % 32)).2.2.1 ∈ WS)
  else decide (Cond.fieldLinkNest (rX (q.1 / 1000)) (q.1 % 1000) (tX (q.2.1 / 32) (q.2.1 % 32)).1 (tX (q.2.1 / 32) (q.2.1 % 32)).2.1 (tX (q.2.1 / 32) (q.2.1 % 32)).2.2.1 "NumberRiver" ∈ NS) && decide (q.2.2.2 = false ∨ q.2.2.2 = true))
theorem tFl_ok : tFl.all (fun q => decide (q.1 % 1000 + q.1 / 1000 * 1000 = q.1) && f_ok q) = true := by decide +kernel
def sn (j : Nat) : String := match j with
  | 0 => "STEP_BITS"
  | _ => "STEP_BASE"
theorem tSl_ok : tSl.all (fun q => decide (q.2 < 2) && decide (Cond.fieldLinkNest (rX (q.1 / 1000)) (q.1 % 1000) "NumberRiver" (sn q.2) "[I" "NumberRiver" ∈ NS)) = true := by decide +kernel
theorem tCl_ok : tCl.all (fun q => decide (q.2 < 8) && decide (Cond.classLink (rX (q.1 / 1000)) (q.1 % 1000) (rX q.2) ∈ WS)) = true := by decide +kernel
theorem tKl_ok : tKl.all (fun q => decide (Cond.constant (rX (q.1 / 1000)) (q.1 % 1000) q.2 ∈ WS)) = true := by decide +kernel
theorem tJl_ok : tJl.all (fun q => decide (Cond.constantLong (rX (q.1 / 1000)) (q.1 % 1000) q.2 ∈ WS)) = true := by decide +kernel
theorem in_at : ∀ c, c < 8 → Cond.instantiable (rX c) (e_nf c) ∈ WS ∧ Cond.initialized (rX c) ∈ WS := lt8 (by decide +kernel) (by decide +kernel) (by decide +kernel) (by decide +kernel) (by decide +kernel) (by decide +kernel) (by decide +kernel) (by decide +kernel)
theorem ar_at : Cond.arrayClass .int ∈ WS ∧ Cond.arrayClass .long ∈ WS := by decide +kernel
theorem lk_mem {α : Type} {j : Nat} {v : α} : ∀ {L : List (Nat × α)}, L.lookup j = some v → (j, v) ∈ L
  | [], h => by simp at h
  | (i, w) :: L, h => by
    rw [List.lookup_cons] at h
    split at h
    · rename_i e
      cases h
      have : j = i := by simpa using e
      subst this
      exact List.mem_cons_self
    · exact List.mem_cons_of_mem _ (lk_mem h)
/-! cells -/
def e_fs (M : HM) (c a : Nat) : List Value := (List.range (e_nf c)).map fun k => e_fv M (32 * c + k) (e_tg (yX c k)) a
def e_ce (cA : Nat → ClassId) (M : HM) (a : Nat) : va_E :=
  if mK M a = 9 then .inl (cA 0, mN M a, .inl (aI M a)) else if mK M a = 10 then .inl (cA 1, mN M a, .inr (.inl (aL M a)))
  else if mK M a = 11 then .inl (cA 2, mN M a, .inr (.inr (.inr (.inr (aR M a))))) else if mK M a = 12 then .inl (cA 3, mN M a, .inr (.inr (.inr (.inr (aR M a)))))
  else if mK M a = 13 then .inl (cA 4, mN M a, .inr (.inr (.inr (.inr (aR M a))))) else .inr (mK M a - 1, e_fs M (mK M a - 1) a)
abbrev Ev : Type := va_G × (Nat → ClassId) × Nat × Cell × (Nat → Nat) × (Nat → Cell)
def e_wr (M : HM) (q : Nat) : Prop := mK M q ≠ 0 ∧ mK M q ≠ 20
def Sees (E : Ev) (M : HM) (H : Heap) : Prop :=
  (∀ a, e_wr M a → mK M a ≤ 13 ∧ va_at E.1 vwCl (a, e_ce E.2.1 M a) H) ∧ (mK M E.2.2.1 = 0 ∧ H[E.2.2.1]? = some E.2.2.2.1) ∧
  (∀ a, mK M a = 20 → ∃ j, j < 2 ∧ a = E.2.2.2.2.1 j) ∧ ∀ j, j < 2 → mK M (E.2.2.2.2.1 j) = 20 ∧ mN M (E.2.2.2.2.1 j) = 5 ∧ aI M (E.2.2.2.2.1 j) = e_sa j ∧ H[E.2.2.2.2.1 j]? = some (E.2.2.2.2.2 j)
abbrev e_tys (cA : Nat → ClassId) : List (ClassId × FieldType) := [(cA 0, .int), (cA 1, .long), (cA 2, .object RX0), (cA 3, .object RX4), (cA 4, .object RX5)]
def Tbl (E : Ev) (U : State) : Prop :=
  va_K E.1 vwCl (e_tys E.2.1) U ∧ (∀ w ∈ NS, va_Nw w U) ∧ (va_AO RX0 U ∧ va_AO RX4 U ∧ va_AO RX5 U) ∧
  (∀ j, j < 2 → ∃ (cf : ClassId) (kf : Class) (fi : Nat) (f : Field), U.fieldFound? "NumberRiver" (sn j) "[I" = some (cf, kf, fi, f) ∧ f.isStatic = true ∧ kf.init = .initialized ∧ kf.statics = some E.2.2.1 ∧ E.2.2.2.1.slots[f.slot]? = some (.ref (E.2.2.2.2.1 j))) ∧
  E.2.2.2.1.vm ≠ .unknown ∧ ∀ j, j < 2 → U.isArrayOf (E.2.2.2.2.2 j) .int ∧ (E.2.2.2.2.2 j).vm ≠ .unknown ∧ 5 ≤ (E.2.2.2.2.2 j).slots.size ∧ ∀ i, i < 5 → (E.2.2.2.2.2 j).slots[i]? = some (.int (e_sa j i))
theorem Tbl.warm {E : Ev} {s U : State} (hW : s.WarmedH U.vm) (h : Tbl E s) : Tbl E U := by
  obtain ⟨h1, h2, ⟨h3, h4, h5⟩, h6, h7, h8⟩ := h
  have hvm : s.vm.Alike U.vm := hW.alike
  refine ⟨va_K.moved hvm h1, fun w hw => ?_, ⟨va_AO.moved hvm h3, va_AO.moved hvm h4, va_AO.moved hvm h5⟩, fun j hj => ?_, h7, fun j hj => ?_⟩
  · have hn := (List.mem_filter.mp hw).2
    have h := h2 w hw
    cases w <;> first | exact va_Nw.warmF hW h | exact va_Nw.warmM hW h | (simp [isNest] at hn)
  · obtain ⟨cf, kf, fi, f, a1, a2, a3, a4, a5⟩ := h6 j hj
    obtain ⟨k', hi', he⟩ := State.fieldFound?_setVm hvm a1
    exact ⟨cf, k', fi, f, hi', a2, by rw [he]; exact a3, by rw [he]; exact a4, a5⟩
  · obtain ⟨a1, a2⟩ := h8 j hj
    exact ⟨State.isArrayOf_alike hvm a1, a2⟩
theorem p_one {D : va_G} {cl : List vw_C} {q : Nat × va_E} {H : Heap} (h : va_at D cl q H) : va_P D cl [q] H := by
  intro k r hr
  cases k with
  | zero => cases hr; exact h
  | succ k => simp at hr
theorem Sees.i {E : Ev} {M : HM} {H : Heap} {a : Nat} (h : Sees E M H) (hk : mK M a = 9) : va_at E.1 vwCl (a, .inl (E.2.1 0, mN M a, .inl (aI M a))) H := by
  have := (h.1 a ⟨by omega, by omega⟩).2
  simpa only [e_ce, hk, if_true] using this
theorem Sees.l {E : Ev} {M : HM} {H : Heap} {a : Nat} (h : Sees E M H) (hk : mK M a = 10) : va_at E.1 vwCl (a, .inl (E.2.1 1, mN M a, .inr (.inl (aL M a)))) H := by
  have := (h.1 a ⟨by omega, by omega⟩).2
  simpa [e_ce, hk] using this
def e_ac (t : Nat) : Nat := t - 9
theorem Sees.q {E : Ev} {M : HM} {H : Heap} {a : Nat} (h : Sees E M H) (hk : mK M a = 11 ∨ mK M a = 12 ∨ mK M a = 13) : va_at E.1 vwCl (a, .inl (E.2.1 (mK M a - 9), mN M a, .inr (.inr (.inr (.inr (aR M a)))))) H := by
  have := (h.1 a ⟨by omega, by omega⟩).2
  rcases hk with hk | hk | hk <;> simpa [e_ce, hk] using this
theorem Sees.o {E : Ev} {M : HM} {H : Heap} {a c : Nat} (h : Sees E M H) (hk : mK M a = c + 1) (hc : c < 8) : va_at E.1 vwCl (a, .inr (c, e_fs M c a)) H := by
  have := (h.1 a ⟨by omega, by omega⟩).2
  unfold e_ce at this
  rw [if_neg (by omega), if_neg (by omega), if_neg (by omega), if_neg (by omega), if_neg (by omega), hk] at this
  exact this
theorem Sees.lt {E : Ev} {M : HM} {H : Heap} {a : Nat} (h : Sees E M H) (hk : mK M a ≠ 0) : a < H.size := by
  by_cases h20 : mK M a = 20
  · obtain ⟨j, hj, rfl⟩ := h.2.2.1 a h20
    exact (Array.getElem?_eq_some_iff.mp (h.2.2.2 j hj).2.2.2).1
  · exact (h.1 a ⟨hk, h20⟩).2.lt
theorem Sees.fresh {E : Ev} {M : HM} {H : Heap} (h : Sees E M H) : mK M H.size = 0 := by
  by_cases hk : mK M H.size = 0
  · exact hk
  · exact absurd (h.lt hk) (Nat.lt_irrefl _)
/-- one cell is written -/
theorem Sees.set {E : Ev} {M M' : HM} {H H' : Heap} {a : Nat} (h : Sees E M H) (ha : e_wr M a) (hK : mK M' = mK M) (hN : mN M' = mN M) (hI : ∀ b, b ≠ a → aI M' b = aI M b) (hce : ∀ b, b ≠ a → e_ce E.2.1 M' b = e_ce E.2.1 M b) (hat : va_at E.1 vwCl (a, e_ce E.2.1 M' a) H') (oq : ∀ q : Nat, q ≠ a → H'[q]? = H[q]?) : Sees E M' H' := by
  obtain ⟨h1, ⟨h2, h3⟩, h4, h5⟩ := h
  refine ⟨fun b hb => ?_, ⟨by rw [hK]; exact h2, ?_⟩, fun b hb => h4 b (by rw [← hK]; exact hb), fun j hj => ?_⟩
  · have hb' : e_wr M b := by unfold e_wr at hb ⊢; rw [hK] at hb; exact hb
    refine ⟨by rw [hK]; exact (h1 b hb').1, ?_⟩
    by_cases e : b = a
    · rw [e]; exact hat
    · rw [hce b e]; exact (h1 b hb').2.kept (oq b e)
  · rw [oq _ (fun e => ha.1 (by rw [← e]; exact h2))]; exact h3
  · obtain ⟨g1, g2, g3, g4⟩ := h5 j hj
    have ne : E.2.2.2.2.1 j ≠ a := fun e => ha.2 (by rw [← e]; exact g1)
    exact ⟨by rw [hK]; exact g1, by rw [hN]; exact g2, by rw [hI _ ne]; exact g3, by rw [oq _ ne]; exact g4⟩
/-- one cell is made -/
theorem Sees.new {E : Ev} {M M' : HM} {H H' : Heap} {t : Nat} (h : Sees E M H) (ht : t ≤ 13) (hK : ∀ b, mK M' b = if b = H.size then t else mK M b) (hN : ∀ b, b ≠ H.size → mN M' b = mN M b) (hI : ∀ b, b ≠ H.size → aI M' b = aI M b) (hce : ∀ b, b ≠ H.size → e_ce E.2.1 M' b = e_ce E.2.1 M b) (hat : va_at E.1 vwCl (H.size, e_ce E.2.1 M' H.size) H') (oq : ∀ q : Nat, q < H.size → H'[q]? = H[q]?) : Sees E M' H' := by
  have hf := h.fresh
  have hlt : ∀ b, mK M b ≠ 0 → b < H.size := fun b => h.lt
  obtain ⟨h1, ⟨h2, h3⟩, h4, h5⟩ := h
  have z0 : E.2.2.1 < H.size := (Array.getElem?_eq_some_iff.mp h3).1
  refine ⟨fun b hb => ?_, ⟨by rw [hK, if_neg (by omega)]; exact h2, by rw [oq _ z0]; exact h3⟩, fun b hb => ?_, fun j hj => ?_⟩
  · by_cases e : b = H.size
    · subst e
      exact ⟨by rw [hK, if_pos rfl]; exact ht, hat⟩
    · have hk : mK M' b = mK M b := by rw [hK, if_neg e]
      have hb' : e_wr M b := by unfold e_wr at hb ⊢; rw [hk] at hb; exact hb
      refine ⟨by rw [hk]; exact (h1 b hb').1, ?_⟩
      rw [hce b e]
      exact (h1 b hb').2.kept (oq b (hlt b hb'.1))
  · by_cases e : b = H.size
    · subst e
      rw [hK, if_pos rfl] at hb
      omega
    · rw [hK, if_neg e] at hb
      exact h4 b hb
  · obtain ⟨g1, g2, g3, g4⟩ := h5 j hj
    have l1 : E.2.2.2.2.1 j < H.size := (Array.getElem?_eq_some_iff.mp g4).1
    exact ⟨by rw [hK, if_neg (by omega)]; exact g1, by rw [hN _ (by omega)]; exact g2, by rw [hI _ (by omega)]; exact g3, by rw [oq _ l1]; exact g4⟩
theorem fs_at {M : HM} {c a k : Nat} (hk : k < e_nf c) : (e_fs M c a)[k]? = some (e_fv M (32 * c + k) (e_tg (yX c k)) a) := by
  simp [e_fs, hk]
theorem ce_eq {cA : Nat → ClassId} {M M' : HM} {b : Nat} (hK : mK M' b = mK M b) (hN : mN M' b = mN M b) (h1 : aI M' b = aI M b) (h2 : aL M' b = aL M b) (h3 : aR M' b = aR M b) (h4 : ∀ f, mI M' f b = mI M f b) (h5 : ∀ f, mL M' f b = mL M f b) (h6 : ∀ f, mR M' f b = mR M f b) : e_ce cA M' b = e_ce cA M b := by
  have hf : ∀ c, e_fs M' c b = e_fs M c b := by
    intro c
    unfold e_fs
    refine List.map_congr_left fun k _ => ?_
    unfold e_fv
    split <;> simp [h4, h5, h6]
  unfold e_ce
  rw [hK, hN, h1, h2, h3, hf]
