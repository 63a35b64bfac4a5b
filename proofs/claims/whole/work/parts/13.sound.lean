section SND
variable {p : Program} {l : Launch} {e : Env} {R : Room} {s : State} {m : MethodId} {args : Array Value} {below : List Frame} {meth : Method} {c : Code}
def e_Qc (E : Ev) (A : Nat → Prop) (Q : QT) : Array Value → State → Outcome → State → Prop := fun _ st oc t => (∃ v M' k n, oc = .returned v ∧ Q v M' k n ∧ Sees E M' t.heap ∧ ∀ q, e_wr M' q → A q) ∧ va_F A st t
def Gw (p : Program) (l : Launch) (e : Env) (R : Room) (s : State) (m : MethodId) (args : Array Value) (below : List Frame) (meth : Method) (c : Code) (nL : Nat) (E : Ev) (A : Nat → Prop) (Q : QT) : GT := fun pc L st M k n =>
  ∀ (H : Heap) (locs : List Loc) (ls : Array Slot), lv_has ls nL L → Sees E M H → (∀ q, e_wr M q → A q) → va_S A s.heap H locs → k ≤ R.cells → n ≤ R.slots → W p l e R s m args below meth c H locs (R.cells - k) (R.slots - n) (MQ below (e_Qc E A Q) args s R.cells R.slots A) (F0 m pc ls st)
def e_rt (rt : Nat) (r : Option FieldType) : Prop := (rt = 0 → r = none) ∧ (rt = 1 → r = some .int) ∧ (rt = 2 → r = some .long) ∧ (rt = 3 → ∃ C, r = some (.object C)) ∧ (rt = 4 → r = some .boolean)
def Ctx (p : Program) (s : State) (m : MethodId) (args : Array Value) (meth : Method) (c : Code) (own nL rt : Nat) (ini : Bool) (cc : ByteArray) (E : Ev) (A : Nat → Prop) : Prop :=
  p.tables.exec = Jvm.exec ∧ c.code = cc ∧ c.maxLocals = nL ∧ s.vm.findClass (rX own) = some m.cls ∧ (∀ w ∈ WS, w.before args s = true) ∧ Tbl E s ∧ (∀ q, s.heap.size ≤ q → A q) ∧ meth.locks = false ∧ e_rt rt meth.sig.returnType ∧ (ini = true → meth.name = "<init>")
def e_op (op x : Nat) : Instr := match op with
  | 0 => .invokevirtual x
  | 1 => .invokespecial x
  | _ => .invokestatic x
def CallOK (own Rf Rl op x na cl : Nat) (sp : SP) : Prop := ∀ (p : Program) (l : Launch) (e : Env) (R : Room) (s : State) (m : MethodId) (args : Array Value) (below : List Frame) (meth : Method) (c : Code) (cc : ByteArray) (nL rt : Nat) (ini : Bool) (E : Ev) (A : Nat → Prop) (Q Q' : QT) (pc : Nat) (L : LV) (st : List Value) (M : HM) (k n : Nat),
  Ctx p s m args meth c own nL rt ini cc E A → Rf ≤ R.frames → Rl ≤ R.locals → decode cc pc = .ok (e_op op x, 3) → na ≤ st.length → e_rm (st.drop na) → e_rc M cl (st.take na).reverse →
  (∀ v M' k' n', Q' v M' k' n' → Gw p l e R s m args below meth c nL E A Q (pc + 3) L (v.toList ++ st.drop na) M' k' n') → sp (st.take na).reverse M k n Q' → Gw p l e R s m args below meth c nL E A Q pc L st M k n
theorem s_put {A : Nat → Prop} {H0 H H1 : Heap} {locs : List Loc} {a k : Nat} (h : va_S A H0 H locs) (z : H1.size = H.size) (oq : ∀ q : Nat, q ≠ a → H1[q]? = H[q]?) (ha : A a) : va_S A H0 H1 (locs ++ [⟨a, k⟩]) := h.put z oq ha
theorem s_new {A : Nat → Prop} {H0 H H1 : Heap} {locs : List Loc} (h : va_S A H0 H locs) (z : H1.size = H.size + 1) (oq : ∀ q : Nat, q < H.size → H1[q]? = H[q]?) : va_S A H0 H1 locs := ⟨Nat.le_trans h.1 (by omega), fun q h1 h2 => (oq q (Nat.lt_of_lt_of_le h1 h.1)).trans (h.2.1 q h1 h2), h.2.2⟩
set_option maxHeartbeats 4000000 in
set_option maxRecDepth 20000 in
theorem gw_cl {own nL rt : Nat} {ini : Bool} {cc : ByteArray} {E : Ev} {A : Nat → Prop} {cs : CS} {Q : QT} (hC : Ctx p s m args meth c own nL rt ini cc E A) (hcs : ∀ op x na cl sp, cs op x = some (na, cl, sp) → CallOK own R.frames R.locals op x na cl sp) : e_cl own nL rt ini cc cs Q (Gw p l e R s m args below meth c nL E A Q) := by
  have hC' := hC
  obtain ⟨hx, hb, hml, hown, hts, hT, hAf, hlk, hrt, hini⟩ := hC'
  refine ⟨fun G' hG pc L st M k n h => ?_, fun ks pc L st M k n h => ?_⟩
  · unfold ex_1 at h
    split at h
    · rename_i i hdec
      obtain ⟨len, hd, hl⟩ := dec_spec hdec
      clear hdec
      unfold ex_i at h
      split at h
      · have hl : len = 1 := by simpa [e_il] using hl
        subst hl
        intro H locs ls hL hS hA hV hk hn
        exact lv_iconst hx hb hd rfl (hG _ _ _ _ _ _ h H locs ls hL hS hA hV hk hn)
      · have hl : len = 2 := by simpa [e_il] using hl
        subst hl
        intro H locs ls hL hS hA hV hk hn
        exact lv_bipush hx hb hd rfl (hG _ _ _ _ _ _ h H locs ls hL hS hA hV hk hn)
      · have hl : len = 3 := by simpa [e_il] using hl
        subst hl
        intro H locs ls hL hS hA hV hk hn
        exact lv_sipush hx hb hd rfl (hG _ _ _ _ _ _ h H locs ls hL hS hA hV hk hn)
      · have hl : len = 1 := by simpa [e_il] using hl
        subst hl
        intro H locs ls hL hS hA hV hk hn
        exact lv_lconst hx hb hd rfl (hG _ _ _ _ _ _ h H locs ls hL hS hA hV hk hn)
      · have hl : len = 1 := by simpa [e_il] using hl
        subst hl
        intro H locs ls hL hS hA hV hk hn
        exact lv_null hx hb hd (hG _ _ _ _ _ _ h H locs ls hL hS hA hV hk hn)
      · have hl : len = 2 := by simpa [e_il] using hl
        subst hl
        intro H locs ls hL hS hA hV hk hn
        split at h
        · rename_i v hv
          exact lv_ldc hx hb hown (hts _ (tK_of hv)) hd (hG _ _ _ _ _ _ h H locs ls hL hS hA hV hk hn)
        · exact h.elim
      · have hl : len = 3 := by simpa [e_il] using hl
        subst hl
        intro H locs ls hL hS hA hV hk hn
        split at h
        · rename_i v hv
          exact lv_ldcw hx hb hown (hts _ (tK_of hv)) hd (hG _ _ _ _ _ _ h H locs ls hL hS hA hV hk hn)
        · exact h.elim
      · have hl : len = 3 := by simpa [e_il] using hl
        subst hl
        intro H locs ls hL hS hA hV hk hn
        split at h
        · rename_i v hv
          exact lv_ldc2 hx hb hown (hts _ (tJ_of hv)) hd (hG _ _ _ _ _ _ h H locs ls hL hS hA hV hk hn)
        · exact h.elim
      · have hl : len = 1 := by simpa [e_il] using hl
        subst hl
        intro H locs ls hL hS hA hV hk hn
        obtain ⟨⟨a, hr⟩, h⟩ := h
        have hv := e_get_of (L := L) (fun z => by rw [z] at hr; cases hr)
        rw [hr] at hv h
        exact lv_iload_n hx hb hd rfl (hL.2.2 _ hv) (hG _ _ _ _ _ _ h H locs ls hL hS hA hV hk hn)
      · have hl : len = 1 := by simpa [e_il] using hl
        subst hl
        intro H locs ls hL hS hA hV hk hn
        obtain ⟨⟨a, hr⟩, h⟩ := h
        have hv := e_get_of (L := L) (fun z => by rw [z] at hr; cases hr)
        rw [hr] at hv h
        exact lv_lload_n hx hb hd rfl (hL.2.2 _ hv) (hG _ _ _ _ _ _ h H locs ls hL hS hA hV hk hn)
      · have hl : len = 1 := by simpa [e_il] using hl
        subst hl
        intro H locs ls hL hS hA hV hk hn
        obtain ⟨hr, h⟩ := h
        have hv := e_get_of (L := L) (fun z => by rw [z] at hr; rcases hr with hr | ⟨_, hr⟩ <;> cases hr)
        rcases hr with hr | ⟨a, hr⟩ <;> rw [hr] at hv h
        · exact lv_aload_nN hx hb hd rfl (hL.2.2 _ hv) (hG _ _ _ _ _ _ h H locs ls hL hS hA hV hk hn)
        · exact lv_aload_n hx hb hd rfl (hL.2.2 _ hv) (hG _ _ _ _ _ _ h H locs ls hL hS hA hV hk hn)
      · have hl : len = 2 := by simpa [e_il] using hl
        subst hl
        intro H locs ls hL hS hA hV hk hn
        obtain ⟨⟨a, hr⟩, h⟩ := h
        have hv := e_get_of (L := L) (fun z => by rw [z] at hr; cases hr)
        rw [hr] at hv h
        exact lv_iload hx hb hd (hL.2.2 _ hv) (hG _ _ _ _ _ _ h H locs ls hL hS hA hV hk hn)
      · have hl : len = 2 := by simpa [e_il] using hl
        subst hl
        intro H locs ls hL hS hA hV hk hn
        obtain ⟨⟨a, hr⟩, h⟩ := h
        have hv := e_get_of (L := L) (fun z => by rw [z] at hr; cases hr)
        rw [hr] at hv h
        exact lv_lload hx hb hd (hL.2.2 _ hv) (hG _ _ _ _ _ _ h H locs ls hL hS hA hV hk hn)
      · have hl : len = 2 := by simpa [e_il] using hl
        subst hl
        intro H locs ls hL hS hA hV hk hn
        obtain ⟨hr, h⟩ := h
        have hv := e_get_of (L := L) (fun z => by rw [z] at hr; rcases hr with hr | ⟨_, hr⟩ <;> cases hr)
        rcases hr with hr | ⟨a, hr⟩ <;> rw [hr] at hv h
        · exact lv_aloadN hx hb hd (hL.2.2 _ hv) (hG _ _ _ _ _ _ h H locs ls hL hS hA hV hk hn)
        · exact lv_aload hx hb hd (hL.2.2 _ hv) (hG _ _ _ _ _ _ h H locs ls hL hS hA hV hk hn)
      · have hl : len = 1 := by simpa [e_il] using hl
        subst hl
        intro H locs ls hL hS hA hV hk hn
        obtain ⟨hj, h⟩ := h
        obtain ⟨x, r, rfl, h⟩ := e_i1_of h
        exact lv_istore_n hx hb hd rfl hL hj rfl (fun ls2 hL2 => hG _ _ _ _ _ _ h H locs ls2 hL2 hS hA hV hk hn)
      · have hl : len = 2 := by simpa [e_il] using hl
        subst hl
        intro H locs ls hL hS hA hV hk hn
        obtain ⟨hj, h⟩ := h
        obtain ⟨x, r, rfl, h⟩ := e_i1_of h
        exact lv_istore hx hb hd hL hj rfl (fun ls2 hL2 => hG _ _ _ _ _ _ h H locs ls2 hL2 hS hA hV hk hn)
      · have hl : len = 1 := by simpa [e_il] using hl
        subst hl
        intro H locs ls hL hS hA hV hk hn
        obtain ⟨hj, h⟩ := h
        obtain ⟨x, r, rfl, h⟩ := e_l1_of h
        exact lv_lstore_n hx hb hd rfl hL hj rfl (fun ls2 hL2 => hG _ _ _ _ _ _ h H locs ls2 hL2 hS hA hV hk hn)
      · have hl : len = 2 := by simpa [e_il] using hl
        subst hl
        intro H locs ls hL hS hA hV hk hn
        obtain ⟨hj, h⟩ := h
        obtain ⟨x, r, rfl, h⟩ := e_l1_of h
        exact lv_lstore hx hb hd hL hj rfl (fun ls2 hL2 => hG _ _ _ _ _ _ h H locs ls2 hL2 hS hA hV hk hn)
      · have hl : len = 1 := by simpa [e_il] using hl
        subst hl
        intro H locs ls hL hS hA hV hk hn
        split at h
        · obtain ⟨hj, hr, h⟩ := h
          rcases hr with rfl | ⟨a, rfl⟩
          · exact lv_astore_nN hx hb hd rfl hL hj rfl (fun ls2 hL2 => hG _ _ _ _ _ _ h H locs ls2 hL2 hS hA hV hk hn)
          · exact lv_astore_n hx hb hd rfl hL hj rfl (fun ls2 hL2 => hG _ _ _ _ _ _ h H locs ls2 hL2 hS hA hV hk hn)
        · exact h.elim
      · have hl : len = 2 := by simpa [e_il] using hl
        subst hl
        intro H locs ls hL hS hA hV hk hn
        split at h
        · obtain ⟨hj, hr, h⟩ := h
          rcases hr with rfl | ⟨a, rfl⟩
          · exact lv_astoreN hx hb hd hL hj rfl (fun ls2 hL2 => hG _ _ _ _ _ _ h H locs ls2 hL2 hS hA hV hk hn)
          · exact lv_astore hx hb hd hL hj rfl (fun ls2 hL2 => hG _ _ _ _ _ _ h H locs ls2 hL2 hS hA hV hk hn)
        · exact h.elim
      · have hl : len = 3 := by simpa [e_il] using hl
        subst hl
        intro H locs ls hL hS hA hV hk hn
        obtain ⟨⟨x, hr⟩, h⟩ := h
        have hv := e_get_of (L := L) (fun z => by rw [z] at hr; cases hr)
        rw [hr] at hv h
        obtain ⟨q, hq⟩ := List.getElem?_of_mem hv
        have hj := lv_lt (hL.2.2 _ hv)
        rw [hL.1] at hj
        exact lv_iinc hx hb hd hL hq rfl hj rfl (fun ls2 hL2 => hG _ _ _ _ _ _ h H locs ls2 hL2 hS hA hV hk hn)
      · have hl : len = 1 := by simpa [e_il] using hl
        subst hl
        intro H locs ls hL hS hA hV hk hn
        obtain ⟨x, y, r, rfl, h⟩ := e_i2_of h
        exact lv_iadd hx hb hd (hG _ _ _ _ _ _ h H locs ls hL hS hA hV hk hn)
      · have hl : len = 1 := by simpa [e_il] using hl
        subst hl
        intro H locs ls hL hS hA hV hk hn
        obtain ⟨x, y, r, rfl, h⟩ := e_i2_of h
        exact lv_isub hx hb hd (hG _ _ _ _ _ _ h H locs ls hL hS hA hV hk hn)
      · have hl : len = 1 := by simpa [e_il] using hl
        subst hl
        intro H locs ls hL hS hA hV hk hn
        obtain ⟨x, y, r, rfl, h⟩ := e_i2_of h
        exact lv_imul hx hb hd (hG _ _ _ _ _ _ h H locs ls hL hS hA hV hk hn)
      · have hl : len = 1 := by simpa [e_il] using hl
        subst hl
        intro H locs ls hL hS hA hV hk hn
        obtain ⟨x, y, r, rfl, hy, h⟩ := e_i2_of h
        exact lv_idiv hx hb hd hy (hG _ _ _ _ _ _ h H locs ls hL hS hA hV hk hn)
      · have hl : len = 1 := by simpa [e_il] using hl
        subst hl
        intro H locs ls hL hS hA hV hk hn
        obtain ⟨x, y, r, rfl, hy, h⟩ := e_i2_of h
        exact lv_irem hx hb hd hy (hG _ _ _ _ _ _ h H locs ls hL hS hA hV hk hn)
      · have hl : len = 1 := by simpa [e_il] using hl
        subst hl
        intro H locs ls hL hS hA hV hk hn
        obtain ⟨x, y, r, rfl, h⟩ := e_i2_of h
        exact lv_iand hx hb hd (hG _ _ _ _ _ _ h H locs ls hL hS hA hV hk hn)
      · have hl : len = 1 := by simpa [e_il] using hl
        subst hl
        intro H locs ls hL hS hA hV hk hn
        obtain ⟨x, y, r, rfl, h⟩ := e_i2_of h
        exact lv_ior hx hb hd (hG _ _ _ _ _ _ h H locs ls hL hS hA hV hk hn)
      · have hl : len = 1 := by simpa [e_il] using hl
        subst hl
        intro H locs ls hL hS hA hV hk hn
        obtain ⟨x, y, r, rfl, h⟩ := e_i2_of h
        exact lv_ixor hx hb hd (hG _ _ _ _ _ _ h H locs ls hL hS hA hV hk hn)
      · have hl : len = 1 := by simpa [e_il] using hl
        subst hl
        intro H locs ls hL hS hA hV hk hn
        obtain ⟨x, y, r, rfl, h⟩ := e_i2_of h
        exact lv_ishl hx hb hd (hG _ _ _ _ _ _ h H locs ls hL hS hA hV hk hn)
      · have hl : len = 1 := by simpa [e_il] using hl
        subst hl
        intro H locs ls hL hS hA hV hk hn
        obtain ⟨x, y, r, rfl, h⟩ := e_i2_of h
        exact lv_ishr hx hb hd (hG _ _ _ _ _ _ h H locs ls hL hS hA hV hk hn)
      · have hl : len = 1 := by simpa [e_il] using hl
        subst hl
        intro H locs ls hL hS hA hV hk hn
        obtain ⟨x, y, r, rfl, h⟩ := e_i2_of h
        exact lv_iushr hx hb hd rfl (hG _ _ _ _ _ _ h H locs ls hL hS hA hV hk hn)
      · have hl : len = 1 := by simpa [e_il] using hl
        subst hl
        intro H locs ls hL hS hA hV hk hn
        obtain ⟨x, r, rfl, h⟩ := e_i1_of h
        exact lv_ineg hx hb hd (hG _ _ _ _ _ _ h H locs ls hL hS hA hV hk hn)
      · have hl : len = 1 := by simpa [e_il] using hl
        subst hl
        intro H locs ls hL hS hA hV hk hn
        obtain ⟨x, r, rfl, h⟩ := e_i1_of h
        exact lv_i2l hx hb hd rfl (hG _ _ _ _ _ _ h H locs ls hL hS hA hV hk hn)
      · have hl : len = 1 := by simpa [e_il] using hl
        subst hl
        intro H locs ls hL hS hA hV hk hn
        obtain ⟨x, r, rfl, h⟩ := e_l1_of h
        exact lv_l2i hx hb hd rfl (hG _ _ _ _ _ _ h H locs ls hL hS hA hV hk hn)
      · have hl : len = 1 := by simpa [e_il] using hl
        subst hl
        intro H locs ls hL hS hA hV hk hn
        obtain ⟨x, y, r, rfl, h⟩ := e_l2_of h
        exact lv_ladd hx hb hd (hG _ _ _ _ _ _ h H locs ls hL hS hA hV hk hn)
      · have hl : len = 1 := by simpa [e_il] using hl
        subst hl
        intro H locs ls hL hS hA hV hk hn
        obtain ⟨x, y, r, rfl, h⟩ := e_l2_of h
        exact lv_lsub hx hb hd (hG _ _ _ _ _ _ h H locs ls hL hS hA hV hk hn)
      · have hl : len = 1 := by simpa [e_il] using hl
        subst hl
        intro H locs ls hL hS hA hV hk hn
        obtain ⟨x, y, r, rfl, h⟩ := e_l2_of h
        exact lv_lmul hx hb hd (hG _ _ _ _ _ _ h H locs ls hL hS hA hV hk hn)
      · have hl : len = 1 := by simpa [e_il] using hl
        subst hl
        intro H locs ls hL hS hA hV hk hn
        obtain ⟨x, y, r, rfl, h⟩ := e_l2_of h
        exact lv_land hx hb hd (hG _ _ _ _ _ _ h H locs ls hL hS hA hV hk hn)
      · have hl : len = 1 := by simpa [e_il] using hl
        subst hl
        intro H locs ls hL hS hA hV hk hn
        obtain ⟨x, y, r, rfl, h⟩ := e_l2_of h
        exact lv_lor hx hb hd (hG _ _ _ _ _ _ h H locs ls hL hS hA hV hk hn)
      · have hl : len = 1 := by simpa [e_il] using hl
        subst hl
        intro H locs ls hL hS hA hV hk hn
        obtain ⟨x, y, r, rfl, h⟩ := e_l2_of h
        exact lv_lxor hx hb hd (hG _ _ _ _ _ _ h H locs ls hL hS hA hV hk hn)
      · have hl : len = 1 := by simpa [e_il] using hl
        subst hl
        intro H locs ls hL hS hA hV hk hn
        obtain ⟨x, y, r, rfl, h⟩ := e_l2_of h
        exact W.lcmp hx hb hd (hG _ _ _ _ _ _ h H locs ls hL hS hA hV hk hn)
      · have hl : len = 1 := by simpa [e_il] using hl
        subst hl
        intro H locs ls hL hS hA hV hk hn
        obtain ⟨x, y, r, rfl, h⟩ := e_li_of h
        exact lv_lshl hx hb hd rfl (hG _ _ _ _ _ _ h H locs ls hL hS hA hV hk hn)
      · have hl : len = 1 := by simpa [e_il] using hl
        subst hl
        intro H locs ls hL hS hA hV hk hn
        obtain ⟨x, y, r, rfl, h⟩ := e_li_of h
        exact lv_lshr hx hb hd rfl (hG _ _ _ _ _ _ h H locs ls hL hS hA hV hk hn)
      · have hl : len = 1 := by simpa [e_il] using hl
        subst hl
        intro H locs ls hL hS hA hV hk hn
        obtain ⟨x, y, r, rfl, h⟩ := e_li_of h
        exact lv_lushr hx hb hd rfl (hG _ _ _ _ _ _ h H locs ls hL hS hA hV hk hn)
      · have hl : len = 1 := by simpa [e_il] using hl
        subst hl
        intro H locs ls hL hS hA hV hk hn
        unfold e_d1 at h
        split at h
        · exact lv_dup hx hb hd rfl (hG _ _ _ _ _ _ h H locs ls hL hS hA hV hk hn)
        · exact lv_dup hx hb hd rfl (hG _ _ _ _ _ _ h H locs ls hL hS hA hV hk hn)
        · exact lv_dup hx hb hd rfl (hG _ _ _ _ _ _ h H locs ls hL hS hA hV hk hn)
        · exact h.elim
      · have hl : len = 1 := by simpa [e_il] using hl
        subst hl
        intro H locs ls hL hS hA hV hk hn
        unfold e_d2 at h
        split at h
        · exact lv_dup2_2 hx hb hd rfl (hG _ _ _ _ _ _ h H locs ls hL hS hA hV hk hn)
        · exact lv_dup2_11 hx hb hd rfl rfl (hG _ _ _ _ _ _ h H locs ls hL hS hA hV hk hn)
        · exact lv_dup2_11 hx hb hd rfl rfl (hG _ _ _ _ _ _ h H locs ls hL hS hA hV hk hn)
        · exact h.elim
      · have hl : len = 3 := by simpa [e_il] using hl
        subst hl
        intro H locs ls hL hS hA hV hk hn
        obtain ⟨ho, h⟩ := h
        obtain ⟨x, r, rfl, h1, h2⟩ := e_i1_of h
        rename_i cnd off
        cases cnd
        · exact lv_if_eq hx hb hd (e_jt_of ho) (fun q => hG _ _ _ _ _ _ (h1 q) H locs ls hL hS hA hV hk hn) (fun q => hG _ _ _ _ _ _ (h2 q) H locs ls hL hS hA hV hk hn)
        · exact lv_if_ne hx hb hd (e_jt_of ho) (fun q => hG _ _ _ _ _ _ (h1 q) H locs ls hL hS hA hV hk hn) (fun q => hG _ _ _ _ _ _ (h2 (fun z => z q)) H locs ls hL hS hA hV hk hn)
        · exact lv_if_lt hx hb hd (e_jt_of ho) (fun q => hG _ _ _ _ _ _ (h1 q) H locs ls hL hS hA hV hk hn) (fun q => hG _ _ _ _ _ _ (h2 q) H locs ls hL hS hA hV hk hn)
        · exact lv_if_ge hx hb hd (e_jt_of ho) (fun q => hG _ _ _ _ _ _ (h1 (Int32.not_lt.mpr q)) H locs ls hL hS hA hV hk hn) (fun q => hG _ _ _ _ _ _ (h2 (fun z => q (Int32.not_lt.mp z))) H locs ls hL hS hA hV hk hn)
        · exact lv_if_gt hx hb hd (e_jt_of ho) (fun q => hG _ _ _ _ _ _ (h1 q) H locs ls hL hS hA hV hk hn) (fun q => hG _ _ _ _ _ _ (h2 q) H locs ls hL hS hA hV hk hn)
        · exact lv_if_le hx hb hd (e_jt_of ho) (fun q => hG _ _ _ _ _ _ (h1 (Int32.not_lt.mpr q)) H locs ls hL hS hA hV hk hn) (fun q => hG _ _ _ _ _ _ (h2 (fun z => q (Int32.not_lt.mp z))) H locs ls hL hS hA hV hk hn)
      · have hl : len = 3 := by simpa [e_il] using hl
        subst hl
        intro H locs ls hL hS hA hV hk hn
        obtain ⟨ho, h⟩ := h
        obtain ⟨x, y, r, rfl, h1, h2⟩ := e_i2_of h
        rename_i cnd off
        cases cnd
        · exact lv_icmp_eq hx hb hd (e_jt_of ho) (fun q => hG _ _ _ _ _ _ (h1 q) H locs ls hL hS hA hV hk hn) (fun q => hG _ _ _ _ _ _ (h2 q) H locs ls hL hS hA hV hk hn)
        · exact lv_icmp_ne hx hb hd (e_jt_of ho) (fun q => hG _ _ _ _ _ _ (h1 q) H locs ls hL hS hA hV hk hn) (fun q => hG _ _ _ _ _ _ (h2 (fun z => z q)) H locs ls hL hS hA hV hk hn)
        · exact lv_icmp_lt hx hb hd (e_jt_of ho) (fun q => hG _ _ _ _ _ _ (h1 q) H locs ls hL hS hA hV hk hn) (fun q => hG _ _ _ _ _ _ (h2 q) H locs ls hL hS hA hV hk hn)
        · exact lv_icmp_ge hx hb hd (e_jt_of ho) (fun q => hG _ _ _ _ _ _ (h1 (Int32.not_lt.mpr q)) H locs ls hL hS hA hV hk hn) (fun q => hG _ _ _ _ _ _ (h2 (fun z => q (Int32.not_lt.mp z))) H locs ls hL hS hA hV hk hn)
        · exact lv_icmp_gt hx hb hd (e_jt_of ho) (fun q => hG _ _ _ _ _ _ (h1 q) H locs ls hL hS hA hV hk hn) (fun q => hG _ _ _ _ _ _ (h2 q) H locs ls hL hS hA hV hk hn)
        · exact lv_icmp_le hx hb hd (e_jt_of ho) (fun q => hG _ _ _ _ _ _ (h1 (Int32.not_lt.mpr q)) H locs ls hL hS hA hV hk hn) (fun q => hG _ _ _ _ _ _ (h2 (fun z => q (Int32.not_lt.mp z))) H locs ls hL hS hA hV hk hn)
      · have hl : len = 3 := by simpa [e_il] using hl
        subst hl
        intro H locs ls hL hS hA hV hk hn
        obtain ⟨ho, h⟩ := h
        unfold e_n1 at h
        split at h
        · exact lv_ifnullN hx hb hd (e_jt_of ho) (hG _ _ _ _ _ _ h H locs ls hL hS hA hV hk hn)
        · exact lv_ifnull hx hb hd (hG _ _ _ _ _ _ h H locs ls hL hS hA hV hk hn)
        · exact h.elim
      · have hl : len = 3 := by simpa [e_il] using hl
        subst hl
        intro H locs ls hL hS hA hV hk hn
        obtain ⟨ho, h⟩ := h
        unfold e_n1 at h
        split at h
        · exact lv_ifnonnullN hx hb hd (hG _ _ _ _ _ _ h H locs ls hL hS hA hV hk hn)
        · exact lv_ifnonnull hx hb hd (e_jt_of ho) (hG _ _ _ _ _ _ h H locs ls hL hS hA hV hk hn)
        · exact h.elim
      · have hl : len = 3 := by simpa [e_il] using hl
        subst hl
        intro H locs ls hL hS hA hV hk hn
        exact lv_goto hx hb hd (e_jt_of h.1) (hG _ _ _ _ _ _ h.2 H locs ls hL hS hA hV hk hn)
      · intro H locs ls hL hS hA hV hk hn
        rename_i d lo hi os
        obtain ⟨hh, h⟩ := h
        obtain ⟨x, r, rfl, h⟩ := e_i1_of h
        by_cases q1 : x.toInt < lo
        · have g := e_ts_out _ _ h (Or.inl q1)
          exact lv_tableOut hx hb hd (Or.inl q1) (e_jt_of g.1) (hG _ _ _ _ _ _ g.2 H locs ls hL hS hA hV hk hn)
        · by_cases q2 : hi < x.toInt
          · have g := e_ts_out _ _ h (Or.inr (by omega))
            exact lv_tableOut hx hb hd (Or.inr q2) (e_jt_of g.1) (hG _ _ _ _ _ _ g.2 H locs ls hL hS hA hV hk hn)
          · have q3 : (x.toInt - lo).toNat < os.toList.length := by omega
            have q4 : os[(x.toInt - lo).toNat]? = some os.toList[(x.toInt - lo).toNat] := by rw [← Array.getElem?_toList]; exact List.getElem?_eq_getElem q3
            have g := e_ts_in _ _ h _ _ (by rw [Array.getElem?_toList]; exact q4) (by omega)
            exact lv_tableIn hx hb hd q1 q2 q4 (e_jt_of g.1) (hG _ _ _ _ _ _ g.2 H locs ls hL hS hA hV hk hn)
      · intro H locs ls hL hS hA hV hk hn
        obtain ⟨hh, h⟩ := h
        obtain ⟨x, r, rfl, h⟩ := e_i1_of h
        have g := e_ls_of _ h
        exact lv_lookup hx hb hd hh rfl (e_jt_of g.1) (hG _ _ _ _ _ _ g.2 H locs ls hL hS hA hV hk hn)
      · have hl : len = 1 := by simpa [e_il] using hl
        subst hl
        intro H locs ls hL hS hA hV hk hn
        obtain ⟨a, r, rfl, h0, h⟩ := e_r1_of h
        rcases h0 with h0 | h0 | h0
        · exact va_alen (D := E.1) hx hb hT.1 (p_one (hS.i h0)) 0 0 rfl rfl rfl hd (hG _ _ _ _ _ _ h H locs ls hL hS hA hV hk hn)
        · exact va_alen (D := E.1) hx hb hT.1 (p_one (hS.l h0)) 0 1 rfl rfl rfl hd (hG _ _ _ _ _ _ h H locs ls hL hS hA hV hk hn)
        · have hq := hS.q h0
          rcases h0 with h0 | h0 | h0 <;> rw [h0] at hq
          · exact va_alen (D := E.1) hx hb hT.1 (p_one hq) 0 2 rfl rfl rfl hd (hG _ _ _ _ _ _ h H locs ls hL hS hA hV hk hn)
          · exact va_alen (D := E.1) hx hb hT.1 (p_one hq) 0 3 rfl rfl rfl hd (hG _ _ _ _ _ _ h H locs ls hL hS hA hV hk hn)
          · exact va_alen (D := E.1) hx hb hT.1 (p_one hq) 0 4 rfl rfl rfl hd (hG _ _ _ _ _ _ h H locs ls hL hS hA hV hk hn)
      · have hl : len = 1 := by simpa [e_il] using hl
        subst hl
        intro H locs ls hL hS hA hV hk hn
        obtain ⟨a, j, r, rfl, h0, hin, h⟩ := e_ir_of h
        rcases h0 with h0 | h0
        · exact va_iald (D := E.1) hx hb hT.1 (p_one (hS.i h0)) 0 0 rfl rfl hin hd (hG _ _ _ _ _ _ h H locs ls hL hS hA hV hk hn)
        · obtain ⟨i, hi, rfl⟩ := hS.2.2.1 a h0
          obtain ⟨-, g2, g3, g4⟩ := hS.2.2.2 i hi
          obtain ⟨f1, f2, f3, f4⟩ := hT.2.2.2.2.2 i hi
          rw [g2] at hin
          have hlt : j.toNatClampNeg < 5 := Nat.not_le.mp fun q => hin (Or.inr q)
          refine W.iald (v := .int (aI M (E.2.2.2.2.1 i) j.toNatClampNeg)) hx hb g4 f1 f2 (fun q => q.elim (fun z => hin (Or.inl z)) (fun z => hin (Or.inr (Nat.le_trans f3 z)))) (by rw [g3]; exact f4 _ hlt) rfl rfl hd (hG _ _ _ _ _ _ h H locs ls hL hS hA hV hk hn)
      · have hl : len = 1 := by simpa [e_il] using hl
        subst hl
        intro H locs ls hL hS hA hV hk hn
        obtain ⟨a, j, r, rfl, h0, hin, h⟩ := e_ir_of h
        exact va_lald (D := E.1) hx hb hT.1 (p_one (hS.l h0)) 0 1 rfl rfl hin hd (hG _ _ _ _ _ _ h H locs ls hL hS hA hV hk hn)
      · have hl : len = 1 := by simpa [e_il] using hl
        subst hl
        intro H locs ls hL hS hA hV hk hn
        obtain ⟨a, j, r, rfl, h0, hin, h⟩ := e_ir_of h
        have hq := hS.q h0
        rcases h0 with h0 | h0 | h0 <;> rw [h0] at hq
        · exact va_aldq (D := E.1) hx hb hT.1 (p_one hq) 0 2 rfl rfl hin hd (hG _ _ _ _ _ _ h H locs ls hL hS hA hV hk hn)
        · exact va_aldq (D := E.1) hx hb hT.1 (p_one hq) 0 3 rfl rfl hin hd (hG _ _ _ _ _ _ h H locs ls hL hS hA hV hk hn)
        · exact va_aldq (D := E.1) hx hb hT.1 (p_one hq) 0 4 rfl rfl hin hd (hG _ _ _ _ _ _ h H locs ls hL hS hA hV hk hn)
      · have hl : len = 1 := by simpa [e_il] using hl
        subst hl
        intro H locs ls hL hS hA hV hk hn
        obtain ⟨a, j, x, r, rfl, h0, hin, h⟩ := e_iir_of h
        refine W.iast hx hb (hS.i h0) ((hT.1.2 0 _ rfl).1 _ (fun z => .int (aI M a z))) (fun q => by cases q) (by show ¬ (j < 0 ∨ (arrV _ _ _).slots.size ≤ _); rw [arrV_size]; exact hin) rfl rfl hd fun H1 e1 z1 oq => ?_
        have hw : e_wr M a := ⟨by omega, by omega⟩
        exact hG _ _ _ _ _ _ h H1 _ ls hL (see_ti hS h0 e1 oq) (fun q hq => hA q hq) (hV.put z1 oq (hA a hw)) hk hn
      · have hl : len = 1 := by simpa [e_il] using hl
        subst hl
        intro H locs ls hL hS hA hV hk hn
        obtain ⟨a, j, x, r, rfl, h0, hin, h⟩ := e_lir_of h
        refine W.last hx hb (hS.l h0) ((hT.1.2 1 _ rfl).1 _ (fun z => .long (aL M a z))) (fun q => by cases q) (by show ¬ (j < 0 ∨ (arrV _ _ _).slots.size ≤ _); rw [arrV_size]; exact hin) rfl rfl hd fun H1 e1 z1 oq => ?_
        have hw : e_wr M a := ⟨by omega, by omega⟩
        exact hG _ _ _ _ _ _ h H1 _ ls hL (see_tl hS h0 e1 oq) (fun q hq => hA q hq) (hV.put z1 oq (hA a hw)) hk hn
      · have hl : len = 1 := by simpa [e_il] using hl
        subst hl
        intro H locs ls hL hS hA hV hk hn
        obtain ⟨a, j, o, r, rfl, h0, hin, hob, h⟩ := e_rir_of h
        have hw : e_wr M a := ⟨by omega, by omega⟩
        exact w_aast hx hb hT hS h0 hin hob hd fun H1 e1 z1 oq => hG _ _ _ _ _ _ h H1 _ ls hL (see_tr hS h0 e1 oq) (fun q hq => hA q hq) (hV.put z1 oq (hA a hw)) hk hn
      · have hl : len = 3 := by simpa [e_il] using hl
        subst hl
        intro H locs ls hL hS hA hV hk hn
        split at h
        · rename_i f tg fin hf
          obtain ⟨a, r, rfl, h0, h⟩ := e_r1_of h
          exact w_get hx hb hown hts hT hS hf h0 hd (hG _ _ _ _ _ _ h H locs ls hL hS hA hV hk hn)
        · exact h.elim
      · have hl : len = 3 := by simpa [e_il] using hl
        subst hl
        intro H locs ls hL hS hA hV hk hn
        split at h
        · rename_i f tg fin hf
          obtain ⟨hfin, h⟩ := h
          obtain ⟨v, a, r, M', rfl, h0, h, hM⟩ := e_pt_of h
          have hw : e_wr M a := ⟨by omega, fun q => by have := (tF_of hf).1; omega⟩
          exact w_put hx hb hown hts hT hS hf hfin hini h0 hM hd fun H1 i z1 hs oq hKe => hG _ _ _ _ _ _ h H1 _ ls hL hs (fun q hq => hA q (by unfold e_wr at hq ⊢; rw [← hKe]; exact hq)) (hV.put z1 oq (hA a hw)) hk hn
        · exact h.elim
      · have hl : len = 3 := by simpa [e_il] using hl
        subst hl
        intro H locs ls hL hS hA hV hk hn
        split at h
        · rename_i j hj
          exact w_gets hx hb hown hT hS hj hd (fun t a1 a2 a3 => hG _ _ _ _ _ _ (h t a1 a2 a3) H locs ls hL hS hA hV hk hn)
        · exact h.elim
      · have hl : len = 3 := by simpa [e_il] using hl
        subst hl
        intro H locs ls hL hS hA hV hk hn
        split at h
        · rename_i cn hc
          obtain ⟨k1, n1, h⟩ := h
          have hfr := hS.fresh
          exact w_new hx hb hown hts hT hS hc (by omega) (by omega) hd fun H1 z1 hs oq => by
            have hz : s.heap.size ≤ H.size := hV.1
            refine W_eqc ?_ ?_ (hG _ _ _ _ _ _ (h H.size hfr) H1 locs ls hL hs (fun q hq => ?_) (s_new hV z1 oq) (by omega) (by omega))
            · omega
            · omega
            · by_cases hq2 : q = H.size
              · subst hq2; exact hAf _ hz
              · refine hA q ?_
                unfold e_wr at hq ⊢
                rw [hmK.2.2.2.2.2.2.1, if_neg hq2] at hq
                exact hq
        · exact h.elim
      · have hl : len = 2 := by simpa [e_il] using hl
        subst hl
        intro H locs ls hL hS hA hV hk hn
        obtain ⟨z, r, rfl, z1, z2, k1, n1, h⟩ := e_i1_of h
        have hfr := hS.fresh
        refine va_newaK (atype := .int) hx hb (hts _ ar_at.1) rfl hd rfl z1 rfl (by show _ * _ ≤ _; simp only [newarray.typeOf, componentBytes]; omega) (by omega) (by omega) rfl fun H1 cB e1 s1 oq hAr hNm => ?_
        have hcB : cB = E.2.1 0 := Option.some.inj (hNm.symm.trans (hT.1.2 0 _ rfl).2)
        subst hcB
        have hz : s.heap.size ≤ H.size := hV.1
        refine W_eqc ?_ ?_ (hG _ _ _ _ _ _ (h H.size hfr) H1 locs ls hL (see_na0 hS e1 oq) (fun q hq => ?_) (s_new hV s1 oq) (by omega) (by omega))
        · omega
        · omega
        · by_cases hq2 : q = H.size
          · subst hq2; exact hAf _ hz
          · refine hA q ?_
            unfold e_wr at hq ⊢
            rw [hmK.2.2.2.2.2.2.2, if_neg hq2] at hq
            exact hq
      · have hl : len = 2 := by simpa [e_il] using hl
        subst hl
        intro H locs ls hL hS hA hV hk hn
        obtain ⟨z, r, rfl, z1, z2, k1, n1, h⟩ := e_i1_of h
        have hfr := hS.fresh
        refine va_newaK (atype := .long) hx hb (hts _ ar_at.2) rfl hd rfl z1 rfl (by show _ * _ ≤ _; simp only [newarray.typeOf, componentBytes]; omega) (by omega) (by omega) rfl fun H1 cB e1 s1 oq hAr hNm => ?_
        have hcB : cB = E.2.1 1 := Option.some.inj (hNm.symm.trans (hT.1.2 1 _ rfl).2)
        subst hcB
        have hz : s.heap.size ≤ H.size := hV.1
        refine W_eqc ?_ ?_ (hG _ _ _ _ _ _ (h H.size hfr) H1 locs ls hL (see_na1 hS e1 oq) (fun q hq => ?_) (s_new hV s1 oq) (by omega) (by omega))
        · omega
        · omega
        · by_cases hq2 : q = H.size
          · subst hq2; exact hAf _ hz
          · refine hA q ?_
            unfold e_wr at hq ⊢
            rw [hmK.2.2.2.2.2.2.2, if_neg hq2] at hq
            exact hq
      · have hl : len = 3 := by simpa [e_il] using hl
        subst hl
        intro H locs ls hL hS hA hV hk hn
        split at h
        · rename_i cn hc
          obtain ⟨hcn, h⟩ := h
          obtain ⟨z, r, rfl, z1, z2, k1, n1, h⟩ := e_i1_of h
          have hfr := hS.fresh
          exact w_anew hx hb hown hts hT hS hc hcn z1 z2 (by omega) (by omega) hd fun H1 s1 hs oq => by
            have hz : s.heap.size ≤ H.size := hV.1
            refine W_eqc ?_ ?_ (hG _ _ _ _ _ _ (h H.size hfr) H1 locs ls hL hs (fun q hq => ?_) (s_new hV s1 oq) (by omega) (by omega))
            · omega
            · omega
            · by_cases hq2 : q = H.size
              · subst hq2; exact hAf _ hz
              · refine hA q ?_
                unfold e_wr at hq ⊢
                rw [hmK.2.2.2.2.2.2.2, if_neg hq2] at hq
                exact hq
        · exact h.elim
      · have hl : len = 3 := by simpa [e_il] using hl
        subst hl
        unfold e_iv at h
        split at h
        · rename_i na cl sp hsp
          obtain ⟨q1, q2, q3, q4⟩ := h
          exact hcs 0 _ na cl sp hsp p l e R s m args below meth c cc nL rt ini E A Q _ pc L st M k n hC (Nat.le_refl _) (Nat.le_refl _) hd q1 q2 q3 (fun v M' k' n' hv => hG _ _ _ _ _ _ hv) q4
        · exact h.elim
      · have hl : len = 3 := by simpa [e_il] using hl
        subst hl
        unfold e_iv at h
        split at h
        · rename_i na cl sp hsp
          obtain ⟨q1, q2, q3, q4⟩ := h
          exact hcs 1 _ na cl sp hsp p l e R s m args below meth c cc nL rt ini E A Q _ pc L st M k n hC (Nat.le_refl _) (Nat.le_refl _) hd q1 q2 q3 (fun v M' k' n' hv => hG _ _ _ _ _ _ hv) q4
        · exact h.elim
      · have hl : len = 3 := by simpa [e_il] using hl
        subst hl
        unfold e_iv at h
        split at h
        · rename_i na cl sp hsp
          obtain ⟨q1, q2, q3, q4⟩ := h
          exact hcs 2 _ na cl sp hsp p l e R s m args below meth c cc nL rt ini E A Q _ pc L st M k n hC (Nat.le_refl _) (Nat.le_refl _) hd q1 q2 q3 (fun v M' k' n' hv => hG _ _ _ _ _ _ hv) q4
        · exact h.elim
      · have hl : len = 1 := by simpa [e_il] using hl
        subst hl
        intro H locs ls hL hS hA hV hk hn
        split at h
        · rename_i v
          obtain ⟨hr, h⟩ := h
          rcases hr with hr | ⟨hr, hv⟩
          · exact W.widen (Nat.sub_le _ _) (Nat.sub_le _ _) (W.iret (v := v) hx hb (hrt.2.1 hr) (fun t ht hW => ⟨⟨some (.int v), M, k, n, rfl, h, by rw [ht]; exact hS, hA⟩, hV.F ht⟩) hV.2.2 hd hlk)
          · exact W.widen (Nat.sub_le _ _) (Nat.sub_le _ _) (W.zret (v := v) hx hb (hrt.2.2.2.2 hr) (by rcases hv with rfl | rfl <;> rfl) (fun t ht hW => ⟨⟨some (.int v), M, k, n, rfl, h, by rw [ht]; exact hS, hA⟩, hV.F ht⟩) hV.2.2 hd hlk)
        · exact h.elim
      · have hl : len = 1 := by simpa [e_il] using hl
        subst hl
        intro H locs ls hL hS hA hV hk hn
        split at h
        · rename_i v
          obtain ⟨hr, h⟩ := h
          exact W.widen (Nat.sub_le _ _) (Nat.sub_le _ _) (W.lret (v := v) hx hb (hrt.2.2.1 hr) (fun t ht hW => ⟨⟨some (.long v), M, k, n, rfl, h, by rw [ht]; exact hS, hA⟩, hV.F ht⟩) hV.2.2 hd hlk)
        · exact h.elim
      · have hl : len = 1 := by simpa [e_il] using hl
        subst hl
        intro H locs ls hL hS hA hV hk hn
        split at h
        · rename_i v
          obtain ⟨hr, hv, h⟩ := h
          obtain ⟨C, hC2⟩ := hrt.2.2.2.1 hr
          exact W.widen (Nat.sub_le _ _) (Nat.sub_le _ _) (W.aret (v := v) hx hb hC2 (Or.inl ⟨C, rfl⟩) hv (fun t ht hW => ⟨⟨some v, M, k, n, rfl, h, by rw [ht]; exact hS, hA⟩, hV.F ht⟩) hV.2.2 hd hlk)
        · exact h.elim
      · have hl : len = 1 := by simpa [e_il] using hl
        subst hl
        intro H locs ls hL hS hA hV hk hn
        split at h
        · obtain ⟨hr, h⟩ := h
          exact W.widen (Nat.sub_le _ _) (Nat.sub_le _ _) (W.vret hx hb (hrt.1 hr) (fun t ht hW => ⟨⟨none, M, k, n, rfl, h, by rw [ht]; exact hS, hA⟩, hV.F ht⟩) hV.2.2 hd hlk)
        · exact h.elim
      · exact h.elim
    · exact h.elim
  · intro H locs ls hL hS hA hV hk hn
    refine h H locs ls ⟨hL.1, hL.2.1, fun q hq => ?_⟩ hS hA hV hk hn
    obtain ⟨j, -, hj⟩ := List.mem_filterMap.mp hq
    cases hv : L.lookup j with
    | none => rw [hv] at hj; cases hj
    | some v =>
      rw [hv] at hj
      cases hj
      exact hL.2.2 _ (lk_mem hv)
end SND
