/-! the abstract heap: kinds (0 nothing, c+1 an object of class c, 9 int[], 10 long[], 11 Block[], 12 Series[], 13 Span[], 20 a table), lengths, fields by number (32 c + k), contents of arrays -/
abbrev HM : Type := (Nat → Nat) × (Nat → Nat) × (Nat → Nat → Int32) × (Nat → Nat → Int64) × (Nat → Nat → Option Nat) × (Nat → Nat → Int32) × (Nat → Nat → Int64) × (Nat → Nat → Option Nat)
def mK (M : HM) : Nat → Nat := M.1
def mN (M : HM) : Nat → Nat := M.2.1
def mI (M : HM) : Nat → Nat → Int32 := M.2.2.1
def mL (M : HM) : Nat → Nat → Int64 := M.2.2.2.1
def mR (M : HM) : Nat → Nat → Option Nat := M.2.2.2.2.1
def aI (M : HM) : Nat → Nat → Int32 := M.2.2.2.2.2.1
def aL (M : HM) : Nat → Nat → Int64 := M.2.2.2.2.2.2.1
def aR (M : HM) : Nat → Nat → Option Nat := M.2.2.2.2.2.2.2
def up2 {α : Type} (f : Nat → Nat → α) (i j : Nat) (v : α) : Nat → Nat → α := fun x y => if x = i ∧ y = j then v else f x y
def sI (M : HM) (f a : Nat) (v : Int32) : HM := (mK M, mN M, up2 (mI M) f a v, mL M, mR M, aI M, aL M, aR M)
def sL (M : HM) (f a : Nat) (v : Int64) : HM := (mK M, mN M, mI M, up2 (mL M) f a v, mR M, aI M, aL M, aR M)
def sR (M : HM) (f a : Nat) (v : Option Nat) : HM := (mK M, mN M, mI M, mL M, up2 (mR M) f a v, aI M, aL M, aR M)
def tI (M : HM) (a i : Nat) (v : Int32) : HM := (mK M, mN M, mI M, mL M, mR M, up2 (aI M) a i v, aL M, aR M)
def tL (M : HM) (a i : Nat) (v : Int64) : HM := (mK M, mN M, mI M, mL M, mR M, aI M, up2 (aL M) a i v, aR M)
def tR (M : HM) (a i : Nat) (v : Option Nat) : HM := (mK M, mN M, mI M, mL M, mR M, aI M, aL M, up2 (aR M) a i v)
def nO (M : HM) (c q : Nat) : HM := ((fun a => if a = q then c + 1 else mK M a), mN M, (fun f a => if a = q then 0 else mI M f a), (fun f a => if a = q then 0 else mL M f a), (fun f a => if a = q then none else mR M f a), aI M, aL M, aR M)
def nA (M : HM) (t q z : Nat) : HM := ((fun a => if a = q then t else mK M a), (fun a => if a = q then z else mN M a), mI M, mL M, mR M, (fun a i => if a = q then 0 else aI M a i), (fun a i => if a = q then 0 else aL M a i), (fun a i => if a = q then none else aR M a i))
theorem hmK : (∀ M f a v, mK (sI M f a v) = mK M) ∧ (∀ M f a v, mK (sL M f a v) = mK M) ∧ (∀ M f a v, mK (sR M f a v) = mK M) ∧ (∀ M f a v, mK (tI M f a v) = mK M) ∧ (∀ M f a v, mK (tL M f a v) = mK M) ∧ (∀ M f a v, mK (tR M f a v) = mK M) ∧ (∀ M c q a, mK (nO M c q) a = if a = q then c + 1 else mK M a) ∧ (∀ M t q z a, mK (nA M t q z) a = if a = q then t else mK M a) := ⟨fun _ _ _ _ => rfl, fun _ _ _ _ => rfl, fun _ _ _ _ => rfl, fun _ _ _ _ => rfl, fun _ _ _ _ => rfl, fun _ _ _ _ => rfl, fun _ _ _ _ => rfl, fun _ _ _ _ _ => rfl⟩
theorem hmN : (∀ M f a v, mN (sI M f a v) = mN M) ∧ (∀ M f a v, mN (sL M f a v) = mN M) ∧ (∀ M f a v, mN (sR M f a v) = mN M) ∧ (∀ M f a v, mN (tI M f a v) = mN M) ∧ (∀ M f a v, mN (tL M f a v) = mN M) ∧ (∀ M f a v, mN (tR M f a v) = mN M) ∧ (∀ M c q, mN (nO M c q) = mN M) ∧ (∀ M t q z a, mN (nA M t q z) a = if a = q then z else mN M a) := ⟨fun _ _ _ _ => rfl, fun _ _ _ _ => rfl, fun _ _ _ _ => rfl, fun _ _ _ _ => rfl, fun _ _ _ _ => rfl, fun _ _ _ _ => rfl, fun _ _ _ => rfl, fun _ _ _ _ _ => rfl⟩
theorem hmI : (∀ M f a v g b, mI (sI M f a v) g b = if g = f ∧ b = a then v else mI M g b) ∧ (∀ M f a v, mI (sL M f a v) = mI M) ∧ (∀ M f a v, mI (sR M f a v) = mI M) ∧ (∀ M f a v, mI (tI M f a v) = mI M) ∧ (∀ M f a v, mI (tL M f a v) = mI M) ∧ (∀ M f a v, mI (tR M f a v) = mI M) ∧ (∀ M c q f a, mI (nO M c q) f a = if a = q then 0 else mI M f a) ∧ (∀ M t q z, mI (nA M t q z) = mI M) := ⟨fun _ _ _ _ _ _ => rfl, fun _ _ _ _ => rfl, fun _ _ _ _ => rfl, fun _ _ _ _ => rfl, fun _ _ _ _ => rfl, fun _ _ _ _ => rfl, fun _ _ _ _ _ => rfl, fun _ _ _ _ => rfl⟩
theorem hmL : (∀ M f a v g b, mL (sL M f a v) g b = if g = f ∧ b = a then v else mL M g b) ∧ (∀ M f a v, mL (sI M f a v) = mL M) ∧ (∀ M f a v, mL (sR M f a v) = mL M) ∧ (∀ M f a v, mL (tI M f a v) = mL M) ∧ (∀ M f a v, mL (tL M f a v) = mL M) ∧ (∀ M f a v, mL (tR M f a v) = mL M) ∧ (∀ M c q f a, mL (nO M c q) f a = if a = q then 0 else mL M f a) ∧ (∀ M t q z, mL (nA M t q z) = mL M) := ⟨fun _ _ _ _ _ _ => rfl, fun _ _ _ _ => rfl, fun _ _ _ _ => rfl, fun _ _ _ _ => rfl, fun _ _ _ _ => rfl, fun _ _ _ _ => rfl, fun _ _ _ _ _ => rfl, fun _ _ _ _ => rfl⟩
theorem hmR : (∀ M f a v g b, mR (sR M f a v) g b = if g = f ∧ b = a then v else mR M g b) ∧ (∀ M f a v, mR (sI M f a v) = mR M) ∧ (∀ M f a v, mR (sL M f a v) = mR M) ∧ (∀ M f a v, mR (tI M f a v) = mR M) ∧ (∀ M f a v, mR (tL M f a v) = mR M) ∧ (∀ M f a v, mR (tR M f a v) = mR M) ∧ (∀ M c q f a, mR (nO M c q) f a = if a = q then none else mR M f a) ∧ (∀ M t q z, mR (nA M t q z) = mR M) := ⟨fun _ _ _ _ _ _ => rfl, fun _ _ _ _ => rfl, fun _ _ _ _ => rfl, fun _ _ _ _ => rfl, fun _ _ _ _ => rfl, fun _ _ _ _ => rfl, fun _ _ _ _ _ => rfl, fun _ _ _ _ => rfl⟩
theorem haI : (∀ M f a v g b, aI (tI M f a v) g b = if g = f ∧ b = a then v else aI M g b) ∧ (∀ M f a v, aI (sI M f a v) = aI M) ∧ (∀ M f a v, aI (sL M f a v) = aI M) ∧ (∀ M f a v, aI (sR M f a v) = aI M) ∧ (∀ M f a v, aI (tL M f a v) = aI M) ∧ (∀ M f a v, aI (tR M f a v) = aI M) ∧ (∀ M c q, aI (nO M c q) = aI M) ∧ (∀ M t q z a i, aI (nA M t q z) a i = if a = q then 0 else aI M a i) := ⟨fun _ _ _ _ _ _ => rfl, fun _ _ _ _ => rfl, fun _ _ _ _ => rfl, fun _ _ _ _ => rfl, fun _ _ _ _ => rfl, fun _ _ _ _ => rfl, fun _ _ _ => rfl, fun _ _ _ _ _ _ => rfl⟩
theorem haL : (∀ M f a v g b, aL (tL M f a v) g b = if g = f ∧ b = a then v else aL M g b) ∧ (∀ M f a v, aL (sI M f a v) = aL M) ∧ (∀ M f a v, aL (sL M f a v) = aL M) ∧ (∀ M f a v, aL (sR M f a v) = aL M) ∧ (∀ M f a v, aL (tI M f a v) = aL M) ∧ (∀ M f a v, aL (tR M f a v) = aL M) ∧ (∀ M c q, aL (nO M c q) = aL M) ∧ (∀ M t q z a i, aL (nA M t q z) a i = if a = q then 0 else aL M a i) := ⟨fun _ _ _ _ _ _ => rfl, fun _ _ _ _ => rfl, fun _ _ _ _ => rfl, fun _ _ _ _ => rfl, fun _ _ _ _ => rfl, fun _ _ _ _ => rfl, fun _ _ _ => rfl, fun _ _ _ _ _ _ => rfl⟩
theorem haR : (∀ M f a v g b, aR (tR M f a v) g b = if g = f ∧ b = a then v else aR M g b) ∧ (∀ M f a v, aR (sI M f a v) = aR M) ∧ (∀ M f a v, aR (sL M f a v) = aR M) ∧ (∀ M f a v, aR (sR M f a v) = aR M) ∧ (∀ M f a v, aR (tI M f a v) = aR M) ∧ (∀ M f a v, aR (tL M f a v) = aR M) ∧ (∀ M c q, aR (nO M c q) = aR M) ∧ (∀ M t q z a i, aR (nA M t q z) a i = if a = q then none else aR M a i) := ⟨fun _ _ _ _ _ _ => rfl, fun _ _ _ _ => rfl, fun _ _ _ _ => rfl, fun _ _ _ _ => rfl, fun _ _ _ _ => rfl, fun _ _ _ _ => rfl, fun _ _ _ => rfl, fun _ _ _ _ _ _ => rfl⟩
/-! one step of the code, over the abstract heap -/
abbrev LV : Type := List (Nat × Value)
abbrev GT : Type := Nat → LV → List Value → HM → Nat → Nat → Prop
abbrev QT : Type := Option Value → HM → Nat → Nat → Prop
abbrev SP : Type := List Value → HM → Nat → Nat → QT → Prop
abbrev CS : Type := Nat → Nat → Option (Nat × Nat × SP)
def isI (v : Value) : Prop := ∃ x, v = .int x
def isL (v : Value) : Prop := ∃ x, v = .long x
def isR (v : Value) : Prop := v = .null ∨ ∃ a, v = .ref a
def e_i1 (st : List Value) (f : Int32 → List Value → Prop) : Prop := match st with
  | .int x :: r => f x r
  | _ => False
def e_i2 (st : List Value) (f : Int32 → Int32 → List Value → Prop) : Prop := match st with
  | .int y :: .int x :: r => f x y r
  | _ => False
def e_l1 (st : List Value) (f : Int64 → List Value → Prop) : Prop := match st with
  | .long x :: r => f x r
  | _ => False
def e_l2 (st : List Value) (f : Int64 → Int64 → List Value → Prop) : Prop := match st with
  | .long y :: .long x :: r => f x y r
  | _ => False
def e_li (st : List Value) (f : Int64 → Int32 → List Value → Prop) : Prop := match st with
  | .int y :: .long x :: r => f x y r
  | _ => False
def e_r1 (st : List Value) (f : Nat → List Value → Prop) : Prop := match st with
  | .ref a :: r => f a r
  | _ => False
def e_n1 (st : List Value) (f : List Value → Prop) (g : List Value → Prop) : Prop := match st with
  | .null :: r => f r
  | .ref _ :: r => g r
  | _ => False
def e_ir (st : List Value) (f : Nat → Int32 → List Value → Prop) : Prop := match st with
  | .int i :: .ref a :: r => f a i r
  | _ => False
def e_iir (st : List Value) (f : Nat → Int32 → Int32 → List Value → Prop) : Prop := match st with
  | .int x :: .int i :: .ref a :: r => f a i x r
  | _ => False
def e_lir (st : List Value) (f : Nat → Int32 → Int64 → List Value → Prop) : Prop := match st with
  | .long x :: .int i :: .ref a :: r => f a i x r
  | _ => False
def e_rir (st : List Value) (f : Nat → Int32 → Option Nat → List Value → Prop) : Prop := match st with
  | .ref b :: .int i :: .ref a :: r => f a i (some b) r
  | .null :: .int i :: .ref a :: r => f a i none r
  | _ => False
def e_get (L : LV) (j : Nat) : Value := (L.lookup j).getD (.retAddr 0)
def e_vi (v : Value) : Int32 := match v with
  | .int x => x
  | _ => 0
def e_k1 (i : Nat) (L : LV) : LV := L.filter (fun q => !(q.1 == i) && !(q.1 + 1 == i && q.2.category == 2))
def e_k2 (i : Nat) (L : LV) : LV := L.filter (fun q => !(q.1 == i) && (!(q.1 == i + 1) && !(q.1 + 1 == i && q.2.category == 2)))
def e_cn (c : Jvm.ClassFile.Cond) (x y : Int32) : Prop := match c with
  | .eq => x = y
  | .ne => ¬ x = y
  | .lt => x < y
  | .ge => ¬ x < y
  | .gt => y < x
  | .le => ¬ y < x
def e_jt (pc : Nat) (off : Int) : Nat := ((pc : Int) + off).toNat
def e_jo (pc : Nat) (off : Int) : Prop := 0 ≤ (pc : Int) + off
def e_ts (g : Int → Prop) (d : Int) (x : Int32) : Int → List Int → Prop
  | _, [] => g d
  | lo, o :: os => (x.toInt = lo → g o) ∧ (¬ x.toInt = lo → e_ts g d x (lo + 1) os)
def e_ls (g : Int → Prop) (d : Int) (x : Int32) : List (Int × Int) → Prop
  | [] => g d
  | o :: os => (x.toInt = o.1 → g o.2) ∧ (¬ x.toInt = o.1 → e_ls g d x os)
def e_rm (r : List Value) : Prop := (r.map fun v => v.category).sum ≤ 8
def e_rc (M : HM) (c : Nat) (as : List Value) : Prop := match as with
  | .ref b :: _ => c = 9 ∨ mK M b = c + 1
  | _ => c = 9
def e_iv (cs : CS) (op idx : Nat) (st : List Value) (M : HM) (k n : Nat) (f : List Value → QT) : Prop := match cs op idx with
  | some (na, c, sp) => na ≤ st.length ∧ e_rm (st.drop na) ∧ e_rc M c (st.take na).reverse ∧ sp (st.take na).reverse M k n (fun v M' k' n' => f (v.toList ++ st.drop na) v M' k' n')
  | none => False
def e_fv (M : HM) (f tg a : Nat) : Value := match tg with
  | 0 => .int (mI M f a)
  | 1 => .long (mL M f a)
  | _ => va_rf (mR M f a)
def e_pt (M : HM) (f tg : Nat) (st : List Value) (g : List Value → HM → Prop) : Prop := match tg, st with
  | 0, .int x :: .ref a :: r => mK M a = f / 32 + 1 ∧ g r (sI M f a x)
  | 1, .long x :: .ref a :: r => mK M a = f / 32 + 1 ∧ g r (sL M f a x)
  | 2, .ref b :: .ref a :: r => mK M a = f / 32 + 1 ∧ g r (sR M f a (some b))
  | 2, .null :: .ref a :: r => mK M a = f / 32 + 1 ∧ g r (sR M f a none)
  | _, _ => False
def e_nf (c : Nat) : Nat := match c with
  | 0 => 14
  | 1 => 7
  | 2 => 9
  | 3 => 8
  | 4 => 9
  | 5 => 8
  | 6 => 4
  | _ => 30
def e_ak (c : Nat) : Nat := match c with
  | 0 => 11
  | 4 => 12
  | 5 => 13
  | _ => 0
def e_kc (t : Nat) : Nat := match t with
  | 11 => 0
  | 12 => 4
  | _ => 5
def e_sa (j : Nat) (i : Nat) : Int32 := match j, i with
  | 0, 0 => 0
  | 0, 1 => 7
  | 0, 2 => 9
  | 0, 3 => 12
  | 0, _ => 32
  | _, 0 => 0
  | _, 1 => 63
  | _, 2 => 255
  | _, 3 => 2047
  | _, _ => 0
def e_d2 (st : List Value) (f : List Value → Prop) : Prop := match st with
  | .long x :: r => f (.long x :: .long x :: r)
  | .int y :: .int x :: r => f (.int y :: .int x :: .int y :: .int x :: r)
  | .int y :: .ref x :: r => f (.int y :: .ref x :: .int y :: .ref x :: r)
  | _ => False
def e_d1 (st : List Value) (f : List Value → Prop) : Prop := match st with
  | .int x :: r => f (.int x :: .int x :: r)
  | .ref x :: r => f (.ref x :: .ref x :: r)
  | .null :: r => f (.null :: .null :: r)
  | _ => False
theorem dec_spec {cc : ByteArray} {pc : Nat} {i : Instr} (h : dec cc pc = some i) : ∃ len, decode cc pc = .ok (i, len) ∧ (len = e_il i ∨ e_il i = 0) := by
  unfold dec at h
  split at h
  · rename_i j len hd
    split at h
    · rename_i hl
      cases h
      exact ⟨len, hd, hl⟩
    · cases h
  · cases h
def ex_i (own nL rt : Nat) (ini : Bool) (cs : CS) (Q : QT) (G : GT) (i : Instr) (pc : Nat) (L : LV) (st : List Value) (M : HM) (k n : Nat) : Prop := match i with
  | .iconst c => G (pc + 1) L (.int (Int32.ofInt c) :: st) M k n
  | .bipush c => G (pc + 2) L (.int (Int8.ofInt c).toInt32 :: st) M k n
  | .sipush c => G (pc + 3) L (.int (Int16.ofInt c).toInt32 :: st) M k n
  | .lconst c => G (pc + 1) L (.long (Int64.ofNat c.val) :: st) M k n
  | .aconst_null => G (pc + 1) L (.null :: st) M k n
  | .ldc x => match tK own x with
    | some v => G (pc + 2) L (.int v :: st) M k n
    | none => False
  | .ldc_w x => match tK own x with
    | some v => G (pc + 3) L (.int v :: st) M k n
    | none => False
  | .ldc2_w x => match tJ own x with
    | some v => G (pc + 3) L (.long v :: st) M k n
    | none => False
  | .iload_n j => isI (e_get L j.val) ∧ G (pc + 1) L (e_get L j.val :: st) M k n
  | .lload_n j => isL (e_get L j.val) ∧ G (pc + 1) L (e_get L j.val :: st) M k n
  | .aload_n j => isR (e_get L j.val) ∧ G (pc + 1) L (e_get L j.val :: st) M k n
  | .iload j => isI (e_get L j) ∧ G (pc + 2) L (e_get L j :: st) M k n
  | .lload j => isL (e_get L j) ∧ G (pc + 2) L (e_get L j :: st) M k n
  | .aload j => isR (e_get L j) ∧ G (pc + 2) L (e_get L j :: st) M k n
  | .istore_n j => j.val < nL ∧ e_i1 st fun x r => G (pc + 1) ((j.val, .int x) :: e_k1 j.val L) r M k n
  | .istore j => j < nL ∧ e_i1 st fun x r => G (pc + 2) ((j, .int x) :: e_k1 j L) r M k n
  | .lstore_n j => j.val + 1 < nL ∧ e_l1 st fun x r => G (pc + 1) ((j.val, .long x) :: e_k2 j.val L) r M k n
  | .lstore j => j + 1 < nL ∧ e_l1 st fun x r => G (pc + 2) ((j, .long x) :: e_k2 j L) r M k n
  | .astore_n j => match st with
    | v :: r => j.val < nL ∧ isR v ∧ G (pc + 1) ((j.val, v) :: e_k1 j.val L) r M k n
    | _ => False
  | .astore j => match st with
    | v :: r => j < nL ∧ isR v ∧ G (pc + 2) ((j, v) :: e_k1 j L) r M k n
    | _ => False
  | .iinc j c => isI (e_get L j) ∧ G (pc + 3) ((j, .int (e_vi (e_get L j) + Int32.ofInt c)) :: e_k1 j L) st M k n
  | .iadd => e_i2 st fun x y r => G (pc + 1) L (.int (x + y) :: r) M k n
  | .isub => e_i2 st fun x y r => G (pc + 1) L (.int (x - y) :: r) M k n
  | .imul => e_i2 st fun x y r => G (pc + 1) L (.int (x * y) :: r) M k n
  | .idiv => e_i2 st fun x y r => ¬ y = 0 ∧ G (pc + 1) L (.int (x / y) :: r) M k n
  | .irem => e_i2 st fun x y r => ¬ y = 0 ∧ G (pc + 1) L (.int (x - x / y * y) :: r) M k n
  | .iand => e_i2 st fun x y r => G (pc + 1) L (.int (x &&& y) :: r) M k n
  | .ior => e_i2 st fun x y r => G (pc + 1) L (.int (x ||| y) :: r) M k n
  | .ixor => e_i2 st fun x y r => G (pc + 1) L (.int (x ^^^ y) :: r) M k n
  | .ishl => e_i2 st fun x y r => G (pc + 1) L (.int (x <<< (y &&& 31)) :: r) M k n
  | .ishr => e_i2 st fun x y r => G (pc + 1) L (.int (x >>> (y &&& 31)) :: r) M k n
  | .iushr => e_i2 st fun x y r => G (pc + 1) L (.int (x.toUInt32 >>> (y.toUInt32 &&& Int32.toUInt32 31)).toInt32 :: r) M k n
  | .ineg => e_i1 st fun x r => G (pc + 1) L (.int (-x) :: r) M k n
  | .i2l => e_i1 st fun x r => G (pc + 1) L (.long x.toInt64 :: r) M k n
  | .l2i => e_l1 st fun x r => G (pc + 1) L (.int x.toInt32 :: r) M k n
  | .ladd => e_l2 st fun x y r => G (pc + 1) L (.long (x + y) :: r) M k n
  | .lsub => e_l2 st fun x y r => G (pc + 1) L (.long (x - y) :: r) M k n
  | .lmul => e_l2 st fun x y r => G (pc + 1) L (.long (x * y) :: r) M k n
  | .land => e_l2 st fun x y r => G (pc + 1) L (.long (x &&& y) :: r) M k n
  | .lor => e_l2 st fun x y r => G (pc + 1) L (.long (x ||| y) :: r) M k n
  | .lxor => e_l2 st fun x y r => G (pc + 1) L (.long (x ^^^ y) :: r) M k n
  | .lcmp => e_l2 st fun x y r => G (pc + 1) L (.int (lg_cmp x y) :: r) M k n
  | .lshl => e_li st fun x y r => G (pc + 1) L (.long (x <<< (y.toInt64 &&& 63)) :: r) M k n
  | .lshr => e_li st fun x y r => G (pc + 1) L (.long (x >>> (y.toInt64 &&& 63)) :: r) M k n
  | .lushr => e_li st fun x y r => G (pc + 1) L (.long (x.toUInt64 >>> (y.toInt64.toUInt64 &&& Int64.toUInt64 63)).toInt64 :: r) M k n
  | .dup => e_d1 st fun s2 => G (pc + 1) L s2 M k n
  | .dup2 => e_d2 st fun s2 => G (pc + 1) L s2 M k n
  | .ifCond c o => e_jo pc o ∧ e_i1 st fun x r => (e_cn c x 0 → G (e_jt pc o) L r M k n) ∧ (¬ e_cn c x 0 → G (pc + 3) L r M k n)
  | .if_icmp c o => e_jo pc o ∧ e_i2 st fun x y r => (e_cn c x y → G (e_jt pc o) L r M k n) ∧ (¬ e_cn c x y → G (pc + 3) L r M k n)
  | .ifnull o => e_jo pc o ∧ e_n1 st (fun r => G (e_jt pc o) L r M k n) (fun r => G (pc + 3) L r M k n)
  | .ifnonnull o => e_jo pc o ∧ e_n1 st (fun r => G (pc + 3) L r M k n) (fun r => G (e_jt pc o) L r M k n)
  | .goto o => e_jo pc o ∧ G (e_jt pc o) L st M k n
  | .tableswitch d lo hi os => (hi = lo + os.toList.length - 1) ∧ e_i1 st fun x r => e_ts (fun o => e_jo pc o ∧ G (e_jt pc o) L r M k n) d x lo os.toList
  | .lookupswitch d ps => ((ps.toList.zip (ps.toList.drop 1)).all (fun (a, next) => a.1 < next.1) = true) ∧ e_i1 st fun x r => e_ls (fun o => e_jo pc o ∧ G (e_jt pc o) L r M k n) d x ps.toList
  | .arraylength => e_r1 st fun a r => (mK M a = 9 ∨ mK M a = 10 ∨ mK M a = 11 ∨ mK M a = 12 ∨ mK M a = 13) ∧ G (pc + 1) L (.int (Int32.ofNat (mN M a)) :: r) M k n
  | .iaload => e_ir st fun a j r => (mK M a = 9 ∨ mK M a = 20) ∧ vp_in j (mN M a) ∧ G (pc + 1) L (.int (aI M a j.toNatClampNeg) :: r) M k n
  | .laload => e_ir st fun a j r => mK M a = 10 ∧ vp_in j (mN M a) ∧ G (pc + 1) L (.long (aL M a j.toNatClampNeg) :: r) M k n
  | .aaload => e_ir st fun a j r => (mK M a = 11 ∨ mK M a = 12 ∨ mK M a = 13) ∧ vp_in j (mN M a) ∧ G (pc + 1) L (va_rf (aR M a j.toNatClampNeg) :: r) M k n
  | .iastore => e_iir st fun a j x r => mK M a = 9 ∧ vp_in j (mN M a) ∧ G (pc + 1) L r (tI M a j.toNatClampNeg x) k n
  | .lastore => e_lir st fun a j x r => mK M a = 10 ∧ vp_in j (mN M a) ∧ G (pc + 1) L r (tL M a j.toNatClampNeg x) k n
  | .aastore => e_rir st fun a j o r => (mK M a = 11 ∨ mK M a = 12 ∨ mK M a = 13) ∧ vp_in j (mN M a) ∧ (∀ b, o = some b → mK M b = e_kc (mK M a) + 1) ∧ G (pc + 1) L r (tR M a j.toNatClampNeg o) k n
  | .getfield x => match tF own x with
    | some (f, tg, _) => e_r1 st fun a r => mK M a = f / 32 + 1 ∧ G (pc + 3) L (e_fv M f tg a :: r) M k n
    | none => False
  | .putfield x => match tF own x with
    | some (f, tg, fin) => (fin = false ∨ (ini = true ∧ own = f / 32)) ∧ e_pt M f tg st fun r M' => G (pc + 3) L r M' k n
    | none => False
  | .getstatic x => match tS own x with
    | some j => ∀ t, mK M t = 20 → mN M t = 5 → aI M t = e_sa j → G (pc + 3) L (.ref t :: st) M k n
    | none => False
  | .new x => match tC own x with
    | some c => 1 ≤ k ∧ e_nf c ≤ n ∧ ∀ q, mK M q = 0 → G (pc + 3) L (.ref q :: st) (nO M c q) (k - 1) (n - e_nf c)
    | none => False
  | .newarray .int => e_i1 st fun z r => ¬ z < 0 ∧ z.toNatClampNeg ≤ 1000000 ∧ 1 ≤ k ∧ z.toNatClampNeg ≤ n ∧ ∀ q, mK M q = 0 → G (pc + 2) L (.ref q :: r) (nA M 9 q z.toNatClampNeg) (k - 1) (n - z.toNatClampNeg)
  | .newarray .long => e_i1 st fun z r => ¬ z < 0 ∧ z.toNatClampNeg ≤ 1000000 ∧ 1 ≤ k ∧ z.toNatClampNeg ≤ n ∧ ∀ q, mK M q = 0 → G (pc + 2) L (.ref q :: r) (nA M 10 q z.toNatClampNeg) (k - 1) (n - z.toNatClampNeg)
  | .anewarray x => match tC own x with
    | some c => (c = 0 ∨ c = 4 ∨ c = 5) ∧ e_i1 st fun z r => ¬ z < 0 ∧ z.toNatClampNeg ≤ 1000000 ∧ 1 ≤ k ∧ z.toNatClampNeg ≤ n ∧ ∀ q, mK M q = 0 → G (pc + 3) L (.ref q :: r) (nA M (e_ak c) q z.toNatClampNeg) (k - 1) (n - z.toNatClampNeg)
    | none => False
  | .invokevirtual x => e_iv cs 0 x st M k n fun s2 _ M' k' n' => G (pc + 3) L s2 M' k' n'
  | .invokespecial x => e_iv cs 1 x st M k n fun s2 _ M' k' n' => G (pc + 3) L s2 M' k' n'
  | .invokestatic x => e_iv cs 2 x st M k n fun s2 _ M' k' n' => G (pc + 3) L s2 M' k' n'
  | .ireturn => match st with
    | [.int v] => (rt = 1 ∨ (rt = 4 ∧ (v = 0 ∨ v = 1))) ∧ Q (some (.int v)) M k n
    | _ => False
  | .lreturn => match st with
    | [.long v] => rt = 2 ∧ Q (some (.long v)) M k n
    | _ => False
  | .areturn => match st with
    | [v] => rt = 3 ∧ isR v ∧ Q (some v) M k n
    | _ => False
  | .return_ => match st with
    | [] => rt = 0 ∧ Q none M k n
    | _ => False
  | _ => False
def ex_1 (own nL rt : Nat) (ini : Bool) (cc : ByteArray) (cs : CS) (Q : QT) (G : GT) (pc : Nat) (L : LV) (st : List Value) (M : HM) (k n : Nat) : Prop := match dec cc pc with
  | some i => ex_i own nL rt ini cs Q G i pc L st M k n
  | none => False
def e_pk (ks : List Nat) (L : LV) : LV := ks.filterMap fun j => (L.lookup j).map fun v => (j, v)
/-- what a body may use: G is closed under the step; fewer locals are enough -/
def e_cl (own nL rt : Nat) (ini : Bool) (cc : ByteArray) (cs : CS) (Q : QT) (G : GT) : Prop :=
  (∀ (G' : GT), (∀ pc L st M k n, G' pc L st M k n → G pc L st M k n) → ∀ pc L st M k n, ex_1 own nL rt ini cc cs Q G' pc L st M k n → G pc L st M k n) ∧
  ∀ ks pc L st M k n, G pc (e_pk ks L) st M k n → G pc L st M k n
def e_wp (own nL rt : Nat) (ini : Bool) (cc : ByteArray) (cs : CS) (Q : QT) (G : GT) (cuts : List (Nat × List Nat)) : Nat → GT
  | 0, pc, L, st, M, k, n => G pc L st M k n
  | f + 1, pc, L, st, M, k, n => match cuts.lookup pc with
    | some ks => G pc (e_pk ks L) st M k n
    | none => ex_1 own nL rt ini cc cs Q (e_wp own nL rt ini cc cs Q G cuts f) pc L st M k n
theorem e_wp_to {own nL rt : Nat} {ini : Bool} {cc : ByteArray} {cs : CS} {Q : QT} {G : GT} {cuts : List (Nat × List Nat)} (h : e_cl own nL rt ini cc cs Q G) : ∀ (f : Nat) pc L st M k n, e_wp own nL rt ini cc cs Q G cuts f pc L st M k n → G pc L st M k n := by
  intro f
  induction f with
  | zero => intro pc L st M k n hw; exact hw
  | succ f ih =>
    intro pc L st M k n hw
    unfold e_wp at hw
    split at hw
    · exact h.2 _ _ _ _ _ _ _ hw
    · exact h.1 _ ih _ _ _ _ _ _ hw
/-- from a point of the code: step, and go on to the cuts -/
theorem e_go {own nL rt : Nat} {ini : Bool} {cc : ByteArray} {cs : CS} {Q : QT} {G : GT} (h : e_cl own nL rt ini cc cs Q G) (cuts : List (Nat × List Nat)) (f : Nat) {pc : Nat} {L : LV} {st : List Value} {M : HM} {k n : Nat} (hw : ex_1 own nL rt ini cc cs Q (e_wp own nL rt ini cc cs Q G cuts f) pc L st M k n) : G pc L st M k n :=
  h.1 _ (e_wp_to h f) _ _ _ _ _ _ hw
