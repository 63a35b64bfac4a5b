/-! the law's own steps: its script is read, never written -/
def ex_s (b L : Nat) (xs : Nat → Int32) (own nL rt : Nat) (ini : Bool) (cs : CS) (Q : QT) (G : GT) (i : Instr) (pc : Nat) (Lv : LV) (st : List Value) (M : HM) (k n : Nat) : Prop := match i with
  | .iaload => e_ir st fun a j r => a = b ∧ vp_in j L ∧ G (pc + 1) Lv (.int (xs j.toNatClampNeg) :: r) M k n
  | .arraylength => e_r1 st fun a r => a = b ∧ G (pc + 1) Lv (.int (Int32.ofNat L) :: r) M k n
  | i => ex_i own nL rt ini cs Q G i pc Lv st M k n
def e_cls (b L : Nat) (xs : Nat → Int32) (own nL rt : Nat) (ini : Bool) (cc : ByteArray) (cs : CS) (Q : QT) (G : GT) : Prop :=
  (∀ (G' : GT), (∀ pc Lv st M k n, G' pc Lv st M k n → G pc Lv st M k n) → ∀ pc Lv st M k n i, dec cc pc = some i → ex_s b L xs own nL rt ini cs Q G' i pc Lv st M k n → G pc Lv st M k n) ∧
  ∀ ks pc Lv st M k n, G pc (e_pk ks Lv) st M k n → G pc Lv st M k n
def e_wps (b L : Nat) (xs : Nat → Int32) (own nL rt : Nat) (ini : Bool) (cc : ByteArray) (cs : CS) (Q : QT) (G : GT) (cuts : List (Nat × List Nat)) : Nat → GT
  | 0, pc, Lv, st, M, k, n => G pc Lv st M k n
  | f + 1, pc, Lv, st, M, k, n => if (cuts.lookup pc).isSome = true then G pc (e_pk ((cuts.lookup pc).getD []) Lv) st M k n else ex_s b L xs own nL rt ini cs Q (e_wps b L xs own nL rt ini cc cs Q G cuts f) ((dec cc pc).getD .nop) pc Lv st M k n
theorem e_wps_s {b L : Nat} {xs : Nat → Int32} {own nL rt : Nat} {ini : Bool} {cc : ByteArray} {cs : CS} {Q : QT} {G : GT} {cuts : List (Nat × List Nat)} {f pc : Nat} {Lv : LV} {st : List Value} {M : HM} {k n : Nat} : e_wps b L xs own nL rt ini cc cs Q G cuts (f + 1) pc Lv st M k n = if (cuts.lookup pc).isSome = true then G pc (e_pk ((cuts.lookup pc).getD []) Lv) st M k n else ex_s b L xs own nL rt ini cs Q (e_wps b L xs own nL rt ini cc cs Q G cuts f) ((dec cc pc).getD .nop) pc Lv st M k n := rfl
theorem e_wps_to {b L : Nat} {xs : Nat → Int32} {own nL rt : Nat} {ini : Bool} {cc : ByteArray} {cs : CS} {Q : QT} {G : GT} {cuts : List (Nat × List Nat)} (h : e_cls b L xs own nL rt ini cc cs Q G) : ∀ (f : Nat) pc Lv st M k n, e_wps b L xs own nL rt ini cc cs Q G cuts f pc Lv st M k n → G pc Lv st M k n := by
  intro f
  induction f with
  | zero => intro pc Lv st M k n hw; exact hw
  | succ f ih =>
    intro pc Lv st M k n hw
    rw [e_wps_s] at hw
    split at hw
    · exact h.2 _ _ _ _ _ _ _ hw
    · cases hd : dec cc pc with
      | none => rw [hd] at hw; exact False.elim hw
      | some i => rw [hd] at hw; exact h.1 _ ih _ _ _ _ _ _ i hd hw
theorem e_gs {b L : Nat} {xs : Nat → Int32} {own nL rt : Nat} {ini : Bool} {cc : ByteArray} {cs : CS} {Q : QT} {G : GT} (h : e_cls b L xs own nL rt ini cc cs Q G) (cuts : List (Nat × List Nat)) (f : Nat) {pc : Nat} {Lv : LV} {st : List Value} {M : HM} {k n : Nat} (hw : ex_s b L xs own nL rt ini cs Q (e_wps b L xs own nL rt ini cc cs Q G cuts f) ((dec cc pc).getD .nop) pc Lv st M k n) : G pc Lv st M k n := by
  cases hd : dec cc pc with
  | none => rw [hd] at hw; exact False.elim hw
  | some i => rw [hd] at hw; exact h.1 _ (e_wps_to h f) _ _ _ _ _ _ i hd hw
section XS
variable {b L : Nat} {xs : Nat → Int32} {own nL rt : Nat} {ini : Bool} {cs : CS} {Q : QT} {G : GT} {pc : Nat} {Lv : LV} {st : List Value} {M : HM} {k n : Nat}
theorem xs_ia {a : Nat} {j : Int32} {r : List Value} : ex_s b L xs own nL rt ini cs Q G .iaload pc Lv (.int j :: .ref a :: r) M k n = (a = b ∧ vp_in j L ∧ G (pc + 1) Lv (.int (xs j.toNatClampNeg) :: r) M k n) := rfl
theorem xs_al {a : Nat} {r : List Value} : ex_s b L xs own nL rt ini cs Q G .arraylength pc Lv (.ref a :: r) M k n = (a = b ∧ G (pc + 1) Lv (.int (Int32.ofNat L) :: r) M k n) := rfl
theorem xs_a : (∀ c, ex_s b L xs own nL rt ini cs Q G (.iconst c) pc Lv st M k n = ex_i own nL rt ini cs Q G (.iconst c) pc Lv st M k n) ∧ (∀ c, ex_s b L xs own nL rt ini cs Q G (.bipush c) pc Lv st M k n = ex_i own nL rt ini cs Q G (.bipush c) pc Lv st M k n) ∧ (∀ c, ex_s b L xs own nL rt ini cs Q G (.ldc2_w c) pc Lv st M k n = ex_i own nL rt ini cs Q G (.ldc2_w c) pc Lv st M k n) ∧ (∀ c, ex_s b L xs own nL rt ini cs Q G (.iload_n c) pc Lv st M k n = ex_i own nL rt ini cs Q G (.iload_n c) pc Lv st M k n) ∧ (∀ c, ex_s b L xs own nL rt ini cs Q G (.aload_n c) pc Lv st M k n = ex_i own nL rt ini cs Q G (.aload_n c) pc Lv st M k n) ∧ (∀ c, ex_s b L xs own nL rt ini cs Q G (.istore_n c) pc Lv st M k n = ex_i own nL rt ini cs Q G (.istore_n c) pc Lv st M k n) ∧ (∀ c, ex_s b L xs own nL rt ini cs Q G (.astore_n c) pc Lv st M k n = ex_i own nL rt ini cs Q G (.astore_n c) pc Lv st M k n) ∧ (∀ c d, ex_s b L xs own nL rt ini cs Q G (.iinc c d) pc Lv st M k n = ex_i own nL rt ini cs Q G (.iinc c d) pc Lv st M k n) := ⟨fun _ => rfl, fun _ => rfl, fun _ => rfl, fun _ => rfl, fun _ => rfl, fun _ => rfl, fun _ => rfl, fun _ _ => rfl⟩
theorem xs_b : ex_s b L xs own nL rt ini cs Q G .iadd pc Lv st M k n = ex_i own nL rt ini cs Q G .iadd pc Lv st M k n ∧ ex_s b L xs own nL rt ini cs Q G .isub pc Lv st M k n = ex_i own nL rt ini cs Q G .isub pc Lv st M k n ∧ ex_s b L xs own nL rt ini cs Q G .iand pc Lv st M k n = ex_i own nL rt ini cs Q G .iand pc Lv st M k n ∧ ex_s b L xs own nL rt ini cs Q G .i2l pc Lv st M k n = ex_i own nL rt ini cs Q G .i2l pc Lv st M k n ∧ ex_s b L xs own nL rt ini cs Q G .land pc Lv st M k n = ex_i own nL rt ini cs Q G .land pc Lv st M k n ∧ ex_s b L xs own nL rt ini cs Q G .lor pc Lv st M k n = ex_i own nL rt ini cs Q G .lor pc Lv st M k n ∧ ex_s b L xs own nL rt ini cs Q G .lshl pc Lv st M k n = ex_i own nL rt ini cs Q G .lshl pc Lv st M k n ∧ ex_s b L xs own nL rt ini cs Q G .lcmp pc Lv st M k n = ex_i own nL rt ini cs Q G .lcmp pc Lv st M k n ∧ ex_s b L xs own nL rt ini cs Q G .dup pc Lv st M k n = ex_i own nL rt ini cs Q G .dup pc Lv st M k n ∧ ex_s b L xs own nL rt ini cs Q G .ireturn pc Lv st M k n = ex_i own nL rt ini cs Q G .ireturn pc Lv st M k n := ⟨rfl, rfl, rfl, rfl, rfl, rfl, rfl, rfl, rfl, rfl⟩
theorem xs_c : (∀ c d, ex_s b L xs own nL rt ini cs Q G (.ifCond c d) pc Lv st M k n = ex_i own nL rt ini cs Q G (.ifCond c d) pc Lv st M k n) ∧ (∀ c d, ex_s b L xs own nL rt ini cs Q G (.if_icmp c d) pc Lv st M k n = ex_i own nL rt ini cs Q G (.if_icmp c d) pc Lv st M k n) ∧ (∀ c, ex_s b L xs own nL rt ini cs Q G (.goto c) pc Lv st M k n = ex_i own nL rt ini cs Q G (.goto c) pc Lv st M k n) ∧ (∀ c d e f, ex_s b L xs own nL rt ini cs Q G (.tableswitch c d e f) pc Lv st M k n = ex_i own nL rt ini cs Q G (.tableswitch c d e f) pc Lv st M k n) ∧ (∀ c, ex_s b L xs own nL rt ini cs Q G (.new c) pc Lv st M k n = ex_i own nL rt ini cs Q G (.new c) pc Lv st M k n) ∧ (∀ c, ex_s b L xs own nL rt ini cs Q G (.invokevirtual c) pc Lv st M k n = ex_i own nL rt ini cs Q G (.invokevirtual c) pc Lv st M k n) ∧ (∀ c, ex_s b L xs own nL rt ini cs Q G (.invokespecial c) pc Lv st M k n = ex_i own nL rt ini cs Q G (.invokespecial c) pc Lv st M k n) := ⟨fun _ _ => rfl, fun _ _ => rfl, fun _ => rfl, fun _ _ _ _ => rfl, fun _ => rfl, fun _ => rfl, fun _ => rfl⟩
end XS
/-- the machine is closed so, where the script lies outside what may change -/
theorem gw_cls {p : Program} {l : Launch} {e : Env} {R : Room} {s : State} {m : MethodId} {args : Array Value} {below : List Frame} {meth : Method} {c : Code} {own nL rt : Nat} {ini : Bool} {cc : ByteArray} {E : Ev} {A : Nat → Prop} {cs : CS} {Q : QT} {b L : Nat} {xs : Nat → Int32} (hC : Ctx p s m args meth c own nL rt ini cc E A) (hcs : ∀ op x na cl sp, cs op x = some (na, cl, sp) → CallOK own R.frames R.locals op x na cl sp) (hX : va_X b L xs s s.heap) (hbl : b < s.heap.size) (hbA : ¬ A b) : e_cls b L xs own nL rt ini cc cs Q (Gw p l e R s m args below meth c nL E A Q) := by
  have hcl := gw_cl (p := p) (l := l) (e := e) (R := R) (below := below) (Q := Q) hC hcs
  refine ⟨fun G' hG pc Lv st M k n i hd hs => ?_, hcl.2⟩
  have hdec := hd
  obtain ⟨len, hde, hl⟩ := dec_spec hd
  unfold ex_s at hs
  split at hs
  · have hl : len = 1 := by simpa [e_il] using hl
    subst hl
    unfold e_ir at hs
    split at hs
    · rename_i j a r
      obtain ⟨rfl, hin, hg⟩ := hs
      intro H locs ls hL hS hA hV hk hn
      exact va_sld hC.1 hC.2.1 hX hbl hbA hV hin hde (hG _ _ _ _ _ _ hg H locs ls hL hS hA hV hk hn)
    · exact hs.elim
  · have hl : len = 1 := by simpa [e_il] using hl
    subst hl
    unfold e_r1 at hs
    split at hs
    · rename_i a r
      obtain ⟨rfl, hg⟩ := hs
      intro H locs ls hL hS hA hV hk hn
      exact va_slen hC.1 hC.2.1 hX hbl hbA hV hde (hG _ _ _ _ _ _ hg H locs ls hL hS hA hV hk hn)
    · exact hs.elim
  · refine hcl.1 G' hG pc Lv st M k n ?_
    unfold ex_1
    rw [hdec]
    exact hs
/-! frames between class and reference -/
theorem NRep.out0 {S : Nat → Nat × Nat → Prop} {O O' : GH} {M N : HM} {x sc ct tr : Nat} {L : List SER} (h : NRep O M x L sc ct tr) (hF : Fr S O O' M N) (hS : ∀ a o, ¬ S a o) : NRep O' N x L sc ct tr := by
  obtain ⟨k1, k2, k3, k4⟩ := h.ks
  obtain ⟨b1, b2, b3, b4, b5, b6, b7⟩ := h.base hF (fun a o _ => hS a o)
  obtain ⟨-, ⟨h1, h2⟩, hs, hi, hg, hq, a, b, u, hQ⟩ := h
  refine ⟨b1, ⟨by rw [b2]; exact h1, h2⟩, fun i S' hiS => ?_, fun i j hi' hj' e => hi i j hi' hj' (by rw [← b6, ← b6]; exact e), ?_, ?_, a, b, u, ?_⟩
  · rw [b6, b3, b7]
    exact ⟨(hs i S' hiS).1, (hs i S' hiS).2.frm hF (fun a o _ => hS a o)⟩
  · rw [b4]
    exact (hg.frm hF (hS _ _) (hS _ _) (hS _ _)).1
  · rw [b5, (hF _ (by rw [k3]; decide)).2.1]; exact hq
  · rw [b5]; exact hQ.frm ((hF _ (by rw [k3]; decide)).2.2 (hS _ _))
theorem NRep.ref {O O' : GH} {M N : HM} {x sc ct tr m : Nat} {L : List SER} (h : NRep O M x L sc ct tr) (hF : Fr (Ss m) O O' M N) (hm : mK M m = 8) : NRep O' N x L sc ct tr := h.out hF hm (fun _ _ ho hs => ho hs)
theorem MRp.out {A : Nat → Nat} {O O' : GH} {M N : HM} {m : Nat} {L : List SER} {z : Nat × Nat × Nat} (h : MRp A O M m L z) (hF : Fr (SN m) O O' M N) : MRp A O' N m L z := by
  obtain ⟨⟨k0, ka⟩, ⟨g0, ga⟩, ⟨h1, h1'⟩, h2, h3, h4, h5, h6⟩ := h
  have f0 := hF m (by rw [k0]; decide)
  have s0 := f0.2.2 (by rw [g0]; exact fun z => z rfl)
  have fa : ∀ f, isA f = true → mK N (A f) = mK M (A f) ∧ O' (A f) = O (A f) ∧ Sm (A f) M N := fun f hf => by
    have h0 := hF (A f) (by rw [(ka f hf).2.1]; exact akd_0 f)
    exact ⟨h0.1, h0.2.1, h0.2.2 (by rw [ga f hf]; exact fun z => z rfl)⟩
  have eI : ∀ f, isA f = true → aI N (A f) = aI M (A f) := fun f hf => (fa f hf).2.2.2.2.2.2.2.1
  have eL : ∀ f, isA f = true → aL N (A f) = aL M (A f) := fun f hf => (fa f hf).2.2.2.2.2.2.2.2.1
  have eV : spv A N = spv A M := by
    funext i
    unfold spv
    rw [eI 237 rfl, eI 238 rfl, eI 239 rfl, eL 240 rfl, eL 241 rfl, eL 242 rfl, eL 243 rfl, eL 244 rfl]
  refine ⟨⟨f0.1.trans k0, fun f hf => ⟨?_, ?_, ?_⟩⟩, ⟨f0.2.1.trans g0, fun f hf => (fa f hf).2.1.trans (ga f hf)⟩, ⟨by rw [s0.2.2.1]; exact h1, h1'⟩, fun s S hs => ?_, fun s a1 a2 => ?_, by rw [s0.2.2.1]; exact h4, by rw [s0.2.2.1]; exact h5, by rw [s0.2.2.1]; exact h6⟩
  · rw [s0.2.2.2.2.1]; exact (ka f hf).1
  · rw [(fa f hf).1]; exact (ka f hf).2.1
  · rw [(fa f hf).2.2.2.1]; exact (ka f hf).2.2
  · obtain ⟨q1, q2, q3, q4, q5⟩ := h2 s S hs
    refine ⟨?_, ?_, ?_, ?_, ?_⟩
    · unfold mH; rw [eI 225 rfl, eI 226 rfl]; exact q1
    · unfold mP; rw [eI 227 rfl, eI 231 rfl, eL 234 rfl]; exact q2
    · unfold mB; rw [eI 228 rfl, eI 232 rfl, eI 236 rfl]; exact q3
    · unfold mT; rw [eI 229 rfl, eI 233 rfl, eL 235 rfl]; exact q4
    · unfold mSp; rw [eI 230 rfl, eV]; exact q5
  · rw [eI 226 rfl, eI 227 rfl, eI 228 rfl, eI 229 rfl, eI 230 rfl]; exact h3 s a1 a2
def LI (O : GH) (A : Nat → Nat) (M : HM) (x m : Nat) (Ls : List SER) (z : Nat × Nat × Nat) : Prop := NRep O M x Ls z.1 z.2.1 z.2.2 ∧ MRp A O M m Ls z ∧ WL Ls
theorem nIks : (∀ a, nI a + 2 = nI (a + 2)) ∧ (∀ a, nI a + 3 = nI (a + 3)) ∧ (∀ a, nI a + 4 = nI (a + 4)) ∧ (∀ a, nI a + 5 = nI (a + 5)) ∧ (∀ a, nI a + 6 = nI (a + 6)) ∧ (∀ a, nI a + 7 = nI (a + 7)) ∧ (∀ a, nI a + 8 = nI (a + 8)) ∧ (∀ a, nI a + 9 = nI (a + 9)) := ⟨fun a => nI_add a 2, fun a => nI_add a 3, fun a => nI_add a 4, fun a => nI_add a 5, fun a => nI_add a 6, fun a => nI_add a 7, fun a => nI_add a 8, fun a => nI_add a 9⟩
theorem it_2 {c A B : Prop} (dc : Decidable c) (h1 : c → A) (h2 : ¬ c → B) : @ite _ c dc A B := by
  split
  · exact h1 ‹_›
  · exact h2 ‹_›
