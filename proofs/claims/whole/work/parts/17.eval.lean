theorem e_ks : Int32.ofInt (-16) = (-16) ∧ Int32.ofInt (-8) = (-8) ∧ Int32.ofInt (-4) = (-4) ∧ Int32.ofInt (-2) = (-2) ∧ Int32.ofInt (-1) = (-1) ∧ Int32.ofInt 0 = 0 ∧ Int32.ofInt 1 = 1 ∧ Int32.ofInt 2 = 2 ∧ Int32.ofInt 3 = 3 ∧ Int32.ofInt 4 = 4 ∧ Int32.ofInt 5 = 5 ∧ Int32.ofInt 8 = 8 ∧ Int32.ofInt 9 = 9 ∧ Int32.ofInt 16 = 16 ∧ (Int8.ofInt (-5)).toInt32 = (-5) ∧ (Int8.ofInt (-4)).toInt32 = (-4) ∧ (Int8.ofInt (-2)).toInt32 = (-2) ∧ (Int8.ofInt 6).toInt32 = 6 ∧ (Int8.ofInt 7).toInt32 = 7 ∧ (Int8.ofInt 8).toInt32 = 8 ∧ (Int8.ofInt 9).toInt32 = 9 ∧ (Int8.ofInt 12).toInt32 = 12 ∧ (Int8.ofInt 15).toInt32 = 15 ∧ (Int8.ofInt 16).toInt32 = 16 ∧ (Int8.ofInt 31).toInt32 = 31 ∧ (Int8.ofInt 32).toInt32 = 32 ∧ (Int8.ofInt 40).toInt32 = 40 ∧ (Int8.ofInt 50).toInt32 = 50 ∧ (Int8.ofInt 60).toInt32 = 60 ∧ (Int8.ofInt 63).toInt32 = 63 ∧ (Int8.ofInt 64).toInt32 = 64 ∧ (Int8.ofInt 70).toInt32 = 70 ∧ (Int8.ofInt 96).toInt32 = 96 ∧ (Int16.ofInt 128).toInt32 = 128 ∧ (Int16.ofInt 226).toInt32 = 226 ∧ (Int16.ofInt 255).toInt32 = 255 ∧ (Int16.ofInt 256).toInt32 = 256 ∧ (Int16.ofInt 300).toInt32 = 300 ∧ (Int16.ofInt 320).toInt32 = 320 ∧ (Int16.ofInt 340).toInt32 = 340 ∧ (Int16.ofInt 350).toInt32 = 350 ∧ (Int16.ofInt 400).toInt32 = 400 ∧ (Int16.ofInt 560).toInt32 = 560 ∧ (Int16.ofInt 2560).toInt32 = 2560 ∧ Int64.ofNat (Fin.val (0 : Fin 2)) = 0 ∧ Int64.ofNat (Fin.val (1 : Fin 2)) = 1 ∧ Fin.val (0 : Fin 4) = 0 ∧ Fin.val (1 : Fin 4) = 1 ∧ Fin.val (2 : Fin 4) = 2 ∧ Fin.val (3 : Fin 4) = 3 := ⟨by decide +kernel, by decide +kernel, by decide +kernel, by decide +kernel, by decide +kernel, by decide +kernel, by decide +kernel, by decide +kernel, by decide +kernel, by decide +kernel, by decide +kernel, by decide +kernel, by decide +kernel, by decide +kernel, by decide +kernel, by decide +kernel, by decide +kernel, by decide +kernel, by decide +kernel, by decide +kernel, by decide +kernel, by decide +kernel, by decide +kernel, by decide +kernel, by decide +kernel, by decide +kernel, by decide +kernel, by decide +kernel, by decide +kernel, by decide +kernel, by decide +kernel, by decide +kernel, by decide +kernel, by decide +kernel, by decide +kernel, by decide +kernel, by decide +kernel, by decide +kernel, by decide +kernel, by decide +kernel, by decide +kernel, by decide +kernel, by decide +kernel, by decide +kernel, by decide +kernel, by decide +kernel, by decide +kernel, by decide +kernel, by decide +kernel, by decide +kernel⟩
theorem isI_i {x : Int32} : isI (.int x) = True := eq_true ⟨x, rfl⟩
theorem isL_l {x : Int64} : isL (.long x) = True := eq_true ⟨x, rfl⟩
theorem isR_r {x : Nat} : isR (.ref x) = True := eq_true (Or.inr ⟨x, rfl⟩)
theorem isR_n : isR .null = True := eq_true (Or.inl rfl)
theorem isR_q {x : Option Nat} : isR (va_rf x) = True := eq_true (by cases x; exact Or.inl rfl; exact Or.inr ⟨_, rfl⟩)
theorem rf_s {a : Nat} : va_rf (some a) = .ref a := rfl
theorem rf_n : va_rf none = .null := rfl
theorem ct_i {x : Int32} : (Value.int x).category = 1 := rfl
theorem ct_l {x : Int64} : (Value.long x).category = 2 := rfl
theorem ct_r {x : Nat} : (Value.ref x).category = 1 := rfl
theorem ct_n : Value.null.category = 1 := rfl
theorem ct_q {x : Option Nat} : (va_rf x).category = 1 := by cases x <;> rfl
theorem lk_c {i j : Nat} {v : Value} {L : LV} : List.lookup i ((j, v) :: L) = if i = j then some v else List.lookup i L := by
  rw [List.lookup_cons]
  by_cases h : i = j
  · simp [h]
  · have h2 : (i == j) = false := by simp [h]
    rw [h2, if_neg h]
theorem lk_k {i j : Nat} {v : List Nat} {L : List (Nat × List Nat)} : List.lookup i ((j, v) :: L) = if i = j then some v else List.lookup i L := by
  rw [List.lookup_cons]
  by_cases h : i = j
  · simp [h]
  · have h2 : (i == j) = false := by simp [h]
    rw [h2, if_neg h]
theorem gt_c {i j : Nat} {v : Value} {L : LV} : e_get ((j, v) :: L) i = if i = j then v else e_get L i := by
  unfold e_get
  rw [lk_c]
  by_cases h : i = j <;> simp [h]
theorem vi_i {x : Int32} : e_vi (.int x) = x := rfl
theorem k1_n {i : Nat} : e_k1 i [] = [] := rfl
theorem k1_c {i j : Nat} {v : Value} {L : LV} : e_k1 i ((j, v) :: L) = if j = i then e_k1 i L else if j + 1 = i then (if v.category = 2 then e_k1 i L else (j, v) :: e_k1 i L) else (j, v) :: e_k1 i L := by
  unfold e_k1
  rw [List.filter_cons]
  by_cases h : j = i
  · simp [h]
  · by_cases h2 : j + 1 = i
    · by_cases h3 : v.category = 2 <;> simp [h, h2, h3]
    · simp [h, h2]
theorem k2_n {i : Nat} : e_k2 i [] = [] := rfl
theorem k2_c {i j : Nat} {v : Value} {L : LV} : e_k2 i ((j, v) :: L) = if j = i then e_k2 i L else if j = i + 1 then e_k2 i L else if j + 1 = i then (if v.category = 2 then e_k2 i L else (j, v) :: e_k2 i L) else (j, v) :: e_k2 i L := by
  unfold e_k2
  rw [List.filter_cons]
  by_cases h : j = i
  · simp [h]
  · by_cases h4 : j = i + 1
    · simp [h4]
    · by_cases h2 : j + 1 = i
      · by_cases h3 : v.category = 2 <;> simp [h, h2, h3, h4]
      · simp [h, h2, h4]
theorem ar_n {i : Nat} : lv_args i [] = [] := rfl
theorem ar_c {i : Nat} {v : Value} {vs : List Value} : lv_args i (v :: vs) = (i, v) :: lv_args (if v.category = 2 then i + 2 else i + 1) vs := rfl
theorem pk_n {L : LV} : e_pk [] L = [] := rfl
theorem pk_c {j : Nat} {ks : List Nat} {L : LV} : e_pk (j :: ks) L = if (L.lookup j).isSome = true then (j, e_get L j) :: e_pk ks L else e_pk ks L := by
  unfold e_pk e_get
  rw [List.filterMap_cons]
  cases L.lookup j <;> simp
theorem rm_0 : e_rm [] = True := eq_true (by unfold e_rm; decide)
theorem rm_1 {a : Value} : e_rm [a] = True := eq_true (by unfold e_rm; rcases lv_cat a with h | h <;> simp [h])
theorem rm_2 {a b : Value} : e_rm [a, b] = True := eq_true (by unfold e_rm; rcases lv_cat a with h | h <;> rcases lv_cat b with h2 | h2 <;> simp [h, h2])
theorem rm_3 {a b c : Value} : e_rm [a, b, c] = True := eq_true (by unfold e_rm; rcases lv_cat a with h | h <;> rcases lv_cat b with h2 | h2 <;> rcases lv_cat c with h3 | h3 <;> simp [h, h2, h3])
theorem rm_4 {a b c d : Value} : e_rm [a, b, c, d] = True := eq_true (by unfold e_rm; rcases lv_cat a with h | h <;> rcases lv_cat b with h2 | h2 <;> rcases lv_cat c with h3 | h3 <;> rcases lv_cat d with h4 | h4 <;> simp [h, h2, h3, h4])
theorem rm_5 {a b : Value} {x y z : Int32} : e_rm [.int x, .int y, .int z, a, b] = True := eq_true (by unfold e_rm; rcases lv_cat a with h | h <;> rcases lv_cat b with h2 | h2 <;> simp [h, h2, ct_i])
theorem rc_9 {M : HM} {as : List Value} : e_rc M 9 as = True := eq_true (by unfold e_rc; split <;> simp)
theorem rc_o {M : HM} {c b : Nat} {as : List Value} (h : c ≠ 9) : e_rc M c (.ref b :: as) = (mK M b = c + 1) := by
  unfold e_rc
  simp [h]
theorem rcs : (∀ M b as, e_rc M 0 (.ref b :: as) = (mK M b = 1)) ∧ (∀ M b as, e_rc M 1 (.ref b :: as) = (mK M b = 2)) ∧ (∀ M b as, e_rc M 2 (.ref b :: as) = (mK M b = 3)) ∧ (∀ M b as, e_rc M 3 (.ref b :: as) = (mK M b = 4)) ∧ (∀ M b as, e_rc M 4 (.ref b :: as) = (mK M b = 5)) ∧ (∀ M b as, e_rc M 5 (.ref b :: as) = (mK M b = 6)) ∧ (∀ M b as, e_rc M 6 (.ref b :: as) = (mK M b = 7)) ∧ (∀ M b as, e_rc M 7 (.ref b :: as) = (mK M b = 8)) := ⟨fun _ _ _ => rc_o (by decide), fun _ _ _ => rc_o (by decide), fun _ _ _ => rc_o (by decide), fun _ _ _ => rc_o (by decide), fun _ _ _ => rc_o (by decide), fun _ _ _ => rc_o (by decide), fun _ _ _ => rc_o (by decide), fun _ _ _ => rc_o (by decide)⟩
theorem fvs : (∀ M f a, e_fv M f 0 a = .int (mI M f a)) ∧ (∀ M f a, e_fv M f 1 a = .long (mL M f a)) ∧ (∀ M f a, e_fv M f 2 a = va_rf (mR M f a)) := ⟨fun _ _ _ => rfl, fun _ _ _ => rfl, fun _ _ _ => rfl⟩
theorem lgs : (∀ x y : Int64, (lg_cmp x y = 0) = (x = y)) ∧ (∀ x y : Int64, (lg_cmp x y < 0) = (x < y)) ∧ (∀ x y : Int64, (0 < lg_cmp x y) = (y < x)) := by
  refine ⟨fun x y => propext ?_, fun x y => propext (lg_cmp_lt x y), fun x y => propext (lg_cmp_gt x y)⟩
  unfold lg_cmp
  by_cases h : x > y
  · simp only [h, if_true]
    constructor
    · intro q; exact absurd q (by decide)
    · intro q; subst q; exact absurd h Int64.lt_irrefl
  · by_cases h2 : x = y
    · simp [h2]
    · simp [h, h2]
def e_tw (G : GT) (pc : Nat) (L : LV) (r : List Value) (M : HM) (k n : Nat) (d : Int) (x : Int32) : Int → List Int → Prop
  | _, [] => e_jo pc d ∧ G (e_jt pc d) L r M k n
  | lo, o :: os => if x.toInt = lo then (e_jo pc o ∧ G (e_jt pc o) L r M k n) else e_tw G pc L r M k n d x (lo + 1) os
def e_lw (G : GT) (pc : Nat) (L : LV) (r : List Value) (M : HM) (k n : Nat) (d : Int) (x : Int32) : List (Int × Int) → Prop
  | [] => e_jo pc d ∧ G (e_jt pc d) L r M k n
  | o :: os => if x.toInt = o.1 then (e_jo pc o.2 ∧ G (e_jt pc o.2) L r M k n) else e_lw G pc L r M k n d x os
section XI
variable {own nL rt : Nat} {ini : Bool} {cs : CS} {Q : QT} {G : GT} {pc : Nat} {L : LV} {M : HM} {k n : Nat}
theorem itp {c A B : Prop} [Decidable c] : ((c → A) ∧ (¬ c → B)) = if c then A else B := by
  by_cases h : c <;> simp [h]
theorem itn {c A B : Prop} [Decidable c] : ((¬ c → A) ∧ (¬ ¬ c → B)) = if c then B else A := by
  by_cases h : c <;> simp [h]
theorem e_tw_e {r : List Value} {d : Int} {x : Int32} : ∀ (os : List Int) (lo : Int), e_ts (fun o => e_jo pc o ∧ G (e_jt pc o) L r M k n) d x lo os = e_tw G pc L r M k n d x lo os
  | [], _ => rfl
  | o :: os, lo => by
    unfold e_ts e_tw
    rw [e_tw_e os (lo + 1), itp]
theorem e_lw_e {r : List Value} {d : Int} {x : Int32} : ∀ (os : List (Int × Int)), e_ls (fun o => e_jo pc o ∧ G (e_jt pc o) L r M k n) d x os = e_lw G pc L r M k n d x os
  | [] => rfl
  | o :: os => by
    unfold e_ls e_lw
    rw [e_lw_e os, itp]
end XI
theorem xis0 : (∀ (own nL rt : Nat) (ini : Bool) (cs : CS) (Q : QT) (G : GT) (pc : Nat) (L : LV) (M : HM) (k n : Nat) (st : List Value) (c : Int), ex_i own nL rt ini cs Q G (.iconst c) pc L st M k n = G (pc + 1) L (.int (Int32.ofInt c) :: st) M k n) ∧
  (∀ (own nL rt : Nat) (ini : Bool) (cs : CS) (Q : QT) (G : GT) (pc : Nat) (L : LV) (M : HM) (k n : Nat) (st : List Value) (c : Int), ex_i own nL rt ini cs Q G (.bipush c) pc L st M k n = G (pc + 2) L (.int (Int8.ofInt c).toInt32 :: st) M k n) ∧
  (∀ (own nL rt : Nat) (ini : Bool) (cs : CS) (Q : QT) (G : GT) (pc : Nat) (L : LV) (M : HM) (k n : Nat) (st : List Value) (c : Int), ex_i own nL rt ini cs Q G (.sipush c) pc L st M k n = G (pc + 3) L (.int (Int16.ofInt c).toInt32 :: st) M k n) ∧
  (∀ (own nL rt : Nat) (ini : Bool) (cs : CS) (Q : QT) (G : GT) (pc : Nat) (L : LV) (M : HM) (k n : Nat) (st : List Value) (c : Fin 2), ex_i own nL rt ini cs Q G (.lconst c) pc L st M k n = G (pc + 1) L (.long (Int64.ofNat c.val) :: st) M k n) ∧
  (∀ (own nL rt : Nat) (ini : Bool) (cs : CS) (Q : QT) (G : GT) (pc : Nat) (L : LV) (M : HM) (k n : Nat) (st : List Value), ex_i own nL rt ini cs Q G .aconst_null pc L st M k n = G (pc + 1) L (.null :: st) M k n) ∧
  (∀ (own nL rt : Nat) (ini : Bool) (cs : CS) (Q : QT) (G : GT) (pc : Nat) (L : LV) (M : HM) (k n : Nat) (st : List Value) (j : Fin 4), ex_i own nL rt ini cs Q G (.iload_n j) pc L st M k n = (isI (e_get L j.val) ∧ G (pc + 1) L (e_get L j.val :: st) M k n)) ∧
  (∀ (own nL rt : Nat) (ini : Bool) (cs : CS) (Q : QT) (G : GT) (pc : Nat) (L : LV) (M : HM) (k n : Nat) (st : List Value) (j : Fin 4), ex_i own nL rt ini cs Q G (.lload_n j) pc L st M k n = (isL (e_get L j.val) ∧ G (pc + 1) L (e_get L j.val :: st) M k n)) ∧
  (∀ (own nL rt : Nat) (ini : Bool) (cs : CS) (Q : QT) (G : GT) (pc : Nat) (L : LV) (M : HM) (k n : Nat) (st : List Value) (j : Fin 4), ex_i own nL rt ini cs Q G (.aload_n j) pc L st M k n = (isR (e_get L j.val) ∧ G (pc + 1) L (e_get L j.val :: st) M k n)) ∧
  (∀ (own nL rt : Nat) (ini : Bool) (cs : CS) (Q : QT) (G : GT) (pc : Nat) (L : LV) (M : HM) (k n : Nat) (st : List Value) (j : Nat), ex_i own nL rt ini cs Q G (.iload j) pc L st M k n = (isI (e_get L j) ∧ G (pc + 2) L (e_get L j :: st) M k n)) ∧
  (∀ (own nL rt : Nat) (ini : Bool) (cs : CS) (Q : QT) (G : GT) (pc : Nat) (L : LV) (M : HM) (k n : Nat) (st : List Value) (j : Nat), ex_i own nL rt ini cs Q G (.lload j) pc L st M k n = (isL (e_get L j) ∧ G (pc + 2) L (e_get L j :: st) M k n)) ∧
  (∀ (own nL rt : Nat) (ini : Bool) (cs : CS) (Q : QT) (G : GT) (pc : Nat) (L : LV) (M : HM) (k n : Nat) (st : List Value) (j : Nat), ex_i own nL rt ini cs Q G (.aload j) pc L st M k n = (isR (e_get L j) ∧ G (pc + 2) L (e_get L j :: st) M k n)) ∧
  (∀ (own nL rt : Nat) (ini : Bool) (cs : CS) (Q : QT) (G : GT) (pc : Nat) (L : LV) (M : HM) (k n : Nat) (r : List Value) (x : Int32) (j : Fin 4), ex_i own nL rt ini cs Q G (.istore_n j) pc L (.int x :: r) M k n = (j.val < nL ∧ G (pc + 1) ((j.val, .int x) :: e_k1 j.val L) r M k n)) ∧
  (∀ (own nL rt : Nat) (ini : Bool) (cs : CS) (Q : QT) (G : GT) (pc : Nat) (L : LV) (M : HM) (k n : Nat) (r : List Value) (x : Int32) (j : Nat), ex_i own nL rt ini cs Q G (.istore j) pc L (.int x :: r) M k n = (j < nL ∧ G (pc + 2) ((j, .int x) :: e_k1 j L) r M k n)) ∧
  (∀ (own nL rt : Nat) (ini : Bool) (cs : CS) (Q : QT) (G : GT) (pc : Nat) (L : LV) (M : HM) (k n : Nat) (r : List Value) (x : Int64) (j : Fin 4), ex_i own nL rt ini cs Q G (.lstore_n j) pc L (.long x :: r) M k n = (j.val + 1 < nL ∧ G (pc + 1) ((j.val, .long x) :: e_k2 j.val L) r M k n)) ∧
  (∀ (own nL rt : Nat) (ini : Bool) (cs : CS) (Q : QT) (G : GT) (pc : Nat) (L : LV) (M : HM) (k n : Nat) (r : List Value) (x : Int64) (j : Nat), ex_i own nL rt ini cs Q G (.lstore j) pc L (.long x :: r) M k n = (j + 1 < nL ∧ G (pc + 2) ((j, .long x) :: e_k2 j L) r M k n)) ∧
  (∀ (own nL rt : Nat) (ini : Bool) (cs : CS) (Q : QT) (G : GT) (pc : Nat) (L : LV) (M : HM) (k n : Nat) (r : List Value) (v : Value) (j : Fin 4), ex_i own nL rt ini cs Q G (.astore_n j) pc L (v :: r) M k n = (j.val < nL ∧ isR v ∧ G (pc + 1) ((j.val, v) :: e_k1 j.val L) r M k n)) ∧
  (∀ (own nL rt : Nat) (ini : Bool) (cs : CS) (Q : QT) (G : GT) (pc : Nat) (L : LV) (M : HM) (k n : Nat) (r : List Value) (v : Value) (j : Nat), ex_i own nL rt ini cs Q G (.astore j) pc L (v :: r) M k n = (j < nL ∧ isR v ∧ G (pc + 2) ((j, v) :: e_k1 j L) r M k n)) ∧
  (∀ (own nL rt : Nat) (ini : Bool) (cs : CS) (Q : QT) (G : GT) (pc : Nat) (L : LV) (M : HM) (k n : Nat) (st : List Value) (j : Nat) (c : Int), ex_i own nL rt ini cs Q G (.iinc j c) pc L st M k n = (isI (e_get L j) ∧ G (pc + 3) ((j, .int (e_vi (e_get L j) + Int32.ofInt c)) :: e_k1 j L) st M k n)) ∧
  (∀ (own nL rt : Nat) (ini : Bool) (cs : CS) (Q : QT) (G : GT) (pc : Nat) (L : LV) (M : HM) (k n : Nat) (r : List Value) (x y : Int32), ex_i own nL rt ini cs Q G .iadd pc L (.int y :: .int x :: r) M k n = G (pc + 1) L (.int (x + y) :: r) M k n) :=
  ⟨(fun own nL rt ini cs Q G pc L M k n st c => rfl),
  (fun own nL rt ini cs Q G pc L M k n st c => rfl),
  (fun own nL rt ini cs Q G pc L M k n st c => rfl),
  (fun own nL rt ini cs Q G pc L M k n st c => rfl),
  (fun own nL rt ini cs Q G pc L M k n st => rfl),
  (fun own nL rt ini cs Q G pc L M k n st j => rfl),
  (fun own nL rt ini cs Q G pc L M k n st j => rfl),
  (fun own nL rt ini cs Q G pc L M k n st j => rfl),
  (fun own nL rt ini cs Q G pc L M k n st j => rfl),
  (fun own nL rt ini cs Q G pc L M k n st j => rfl),
  (fun own nL rt ini cs Q G pc L M k n st j => rfl),
  (fun own nL rt ini cs Q G pc L M k n r x j => rfl),
  (fun own nL rt ini cs Q G pc L M k n r x j => rfl),
  (fun own nL rt ini cs Q G pc L M k n r x j => rfl),
  (fun own nL rt ini cs Q G pc L M k n r x j => rfl),
  (fun own nL rt ini cs Q G pc L M k n r v j => rfl),
  (fun own nL rt ini cs Q G pc L M k n r v j => rfl),
  (fun own nL rt ini cs Q G pc L M k n st j c => rfl),
  (fun own nL rt ini cs Q G pc L M k n r x y => rfl)⟩
theorem xis1 : (∀ (own nL rt : Nat) (ini : Bool) (cs : CS) (Q : QT) (G : GT) (pc : Nat) (L : LV) (M : HM) (k n : Nat) (r : List Value) (x y : Int32), ex_i own nL rt ini cs Q G .isub pc L (.int y :: .int x :: r) M k n = G (pc + 1) L (.int (x - y) :: r) M k n) ∧
  (∀ (own nL rt : Nat) (ini : Bool) (cs : CS) (Q : QT) (G : GT) (pc : Nat) (L : LV) (M : HM) (k n : Nat) (r : List Value) (x y : Int32), ex_i own nL rt ini cs Q G .imul pc L (.int y :: .int x :: r) M k n = G (pc + 1) L (.int (x * y) :: r) M k n) ∧
  (∀ (own nL rt : Nat) (ini : Bool) (cs : CS) (Q : QT) (G : GT) (pc : Nat) (L : LV) (M : HM) (k n : Nat) (r : List Value) (x y : Int32), ex_i own nL rt ini cs Q G .iand pc L (.int y :: .int x :: r) M k n = G (pc + 1) L (.int (x &&& y) :: r) M k n) ∧
  (∀ (own nL rt : Nat) (ini : Bool) (cs : CS) (Q : QT) (G : GT) (pc : Nat) (L : LV) (M : HM) (k n : Nat) (r : List Value) (x y : Int32), ex_i own nL rt ini cs Q G .ior pc L (.int y :: .int x :: r) M k n = G (pc + 1) L (.int (x ||| y) :: r) M k n) ∧
  (∀ (own nL rt : Nat) (ini : Bool) (cs : CS) (Q : QT) (G : GT) (pc : Nat) (L : LV) (M : HM) (k n : Nat) (r : List Value) (x y : Int32), ex_i own nL rt ini cs Q G .ixor pc L (.int y :: .int x :: r) M k n = G (pc + 1) L (.int (x ^^^ y) :: r) M k n) ∧
  (∀ (own nL rt : Nat) (ini : Bool) (cs : CS) (Q : QT) (G : GT) (pc : Nat) (L : LV) (M : HM) (k n : Nat) (r : List Value) (x y : Int32), ex_i own nL rt ini cs Q G .ishl pc L (.int y :: .int x :: r) M k n = G (pc + 1) L (.int (x <<< (y &&& 31)) :: r) M k n) ∧
  (∀ (own nL rt : Nat) (ini : Bool) (cs : CS) (Q : QT) (G : GT) (pc : Nat) (L : LV) (M : HM) (k n : Nat) (r : List Value) (x y : Int32), ex_i own nL rt ini cs Q G .ishr pc L (.int y :: .int x :: r) M k n = G (pc + 1) L (.int (x >>> (y &&& 31)) :: r) M k n) ∧
  (∀ (own nL rt : Nat) (ini : Bool) (cs : CS) (Q : QT) (G : GT) (pc : Nat) (L : LV) (M : HM) (k n : Nat) (r : List Value) (x y : Int32), ex_i own nL rt ini cs Q G .iushr pc L (.int y :: .int x :: r) M k n = G (pc + 1) L (.int ((x.toUInt32 >>> (y.toUInt32 &&& Int32.toUInt32 31)).toInt32) :: r) M k n) ∧
  (∀ (own nL rt : Nat) (ini : Bool) (cs : CS) (Q : QT) (G : GT) (pc : Nat) (L : LV) (M : HM) (k n : Nat) (r : List Value) (x y : Int32), ex_i own nL rt ini cs Q G .idiv pc L (.int y :: .int x :: r) M k n = (¬ y = 0 ∧ G (pc + 1) L (.int (x / y) :: r) M k n)) ∧
  (∀ (own nL rt : Nat) (ini : Bool) (cs : CS) (Q : QT) (G : GT) (pc : Nat) (L : LV) (M : HM) (k n : Nat) (r : List Value) (x y : Int32), ex_i own nL rt ini cs Q G .irem pc L (.int y :: .int x :: r) M k n = (¬ y = 0 ∧ G (pc + 1) L (.int (x - x / y * y) :: r) M k n)) ∧
  (∀ (own nL rt : Nat) (ini : Bool) (cs : CS) (Q : QT) (G : GT) (pc : Nat) (L : LV) (M : HM) (k n : Nat) (r : List Value) (x : Int32), ex_i own nL rt ini cs Q G .ineg pc L (.int x :: r) M k n = G (pc + 1) L (.int (-x) :: r) M k n) ∧
  (∀ (own nL rt : Nat) (ini : Bool) (cs : CS) (Q : QT) (G : GT) (pc : Nat) (L : LV) (M : HM) (k n : Nat) (r : List Value) (x : Int32), ex_i own nL rt ini cs Q G .i2l pc L (.int x :: r) M k n = G (pc + 1) L (.long x.toInt64 :: r) M k n) ∧
  (∀ (own nL rt : Nat) (ini : Bool) (cs : CS) (Q : QT) (G : GT) (pc : Nat) (L : LV) (M : HM) (k n : Nat) (r : List Value) (x : Int64), ex_i own nL rt ini cs Q G .l2i pc L (.long x :: r) M k n = G (pc + 1) L (.int x.toInt32 :: r) M k n) ∧
  (∀ (own nL rt : Nat) (ini : Bool) (cs : CS) (Q : QT) (G : GT) (pc : Nat) (L : LV) (M : HM) (k n : Nat) (r : List Value) (x y : Int64), ex_i own nL rt ini cs Q G .ladd pc L (.long y :: .long x :: r) M k n = G (pc + 1) L (.long (x + y) :: r) M k n) ∧
  (∀ (own nL rt : Nat) (ini : Bool) (cs : CS) (Q : QT) (G : GT) (pc : Nat) (L : LV) (M : HM) (k n : Nat) (r : List Value) (x y : Int64), ex_i own nL rt ini cs Q G .lsub pc L (.long y :: .long x :: r) M k n = G (pc + 1) L (.long (x - y) :: r) M k n) ∧
  (∀ (own nL rt : Nat) (ini : Bool) (cs : CS) (Q : QT) (G : GT) (pc : Nat) (L : LV) (M : HM) (k n : Nat) (r : List Value) (x y : Int64), ex_i own nL rt ini cs Q G .lmul pc L (.long y :: .long x :: r) M k n = G (pc + 1) L (.long (x * y) :: r) M k n) ∧
  (∀ (own nL rt : Nat) (ini : Bool) (cs : CS) (Q : QT) (G : GT) (pc : Nat) (L : LV) (M : HM) (k n : Nat) (r : List Value) (x y : Int64), ex_i own nL rt ini cs Q G .land pc L (.long y :: .long x :: r) M k n = G (pc + 1) L (.long (x &&& y) :: r) M k n) ∧
  (∀ (own nL rt : Nat) (ini : Bool) (cs : CS) (Q : QT) (G : GT) (pc : Nat) (L : LV) (M : HM) (k n : Nat) (r : List Value) (x y : Int64), ex_i own nL rt ini cs Q G .lor pc L (.long y :: .long x :: r) M k n = G (pc + 1) L (.long (x ||| y) :: r) M k n) ∧
  (∀ (own nL rt : Nat) (ini : Bool) (cs : CS) (Q : QT) (G : GT) (pc : Nat) (L : LV) (M : HM) (k n : Nat) (r : List Value) (x y : Int64), ex_i own nL rt ini cs Q G .lxor pc L (.long y :: .long x :: r) M k n = G (pc + 1) L (.long (x ^^^ y) :: r) M k n) :=
  ⟨(fun own nL rt ini cs Q G pc L M k n r x y => rfl),
  (fun own nL rt ini cs Q G pc L M k n r x y => rfl),
  (fun own nL rt ini cs Q G pc L M k n r x y => rfl),
  (fun own nL rt ini cs Q G pc L M k n r x y => rfl),
  (fun own nL rt ini cs Q G pc L M k n r x y => rfl),
  (fun own nL rt ini cs Q G pc L M k n r x y => rfl),
  (fun own nL rt ini cs Q G pc L M k n r x y => rfl),
  (fun own nL rt ini cs Q G pc L M k n r x y => rfl),
  (fun own nL rt ini cs Q G pc L M k n r x y => rfl),
  (fun own nL rt ini cs Q G pc L M k n r x y => rfl),
  (fun own nL rt ini cs Q G pc L M k n r x => rfl),
  (fun own nL rt ini cs Q G pc L M k n r x => rfl),
  (fun own nL rt ini cs Q G pc L M k n r x => rfl),
  (fun own nL rt ini cs Q G pc L M k n r x y => rfl),
  (fun own nL rt ini cs Q G pc L M k n r x y => rfl),
  (fun own nL rt ini cs Q G pc L M k n r x y => rfl),
  (fun own nL rt ini cs Q G pc L M k n r x y => rfl),
  (fun own nL rt ini cs Q G pc L M k n r x y => rfl),
  (fun own nL rt ini cs Q G pc L M k n r x y => rfl)⟩
theorem xis2 : (∀ (own nL rt : Nat) (ini : Bool) (cs : CS) (Q : QT) (G : GT) (pc : Nat) (L : LV) (M : HM) (k n : Nat) (r : List Value) (x y : Int64), ex_i own nL rt ini cs Q G .lcmp pc L (.long y :: .long x :: r) M k n = G (pc + 1) L (.int (lg_cmp x y) :: r) M k n) ∧
  (∀ (own nL rt : Nat) (ini : Bool) (cs : CS) (Q : QT) (G : GT) (pc : Nat) (L : LV) (M : HM) (k n : Nat) (r : List Value) (x : Int64) (y : Int32), ex_i own nL rt ini cs Q G .lshl pc L (.int y :: .long x :: r) M k n = G (pc + 1) L (.long (x <<< (y.toInt64 &&& 63)) :: r) M k n) ∧
  (∀ (own nL rt : Nat) (ini : Bool) (cs : CS) (Q : QT) (G : GT) (pc : Nat) (L : LV) (M : HM) (k n : Nat) (r : List Value) (x : Int64) (y : Int32), ex_i own nL rt ini cs Q G .lshr pc L (.int y :: .long x :: r) M k n = G (pc + 1) L (.long (x >>> (y.toInt64 &&& 63)) :: r) M k n) ∧
  (∀ (own nL rt : Nat) (ini : Bool) (cs : CS) (Q : QT) (G : GT) (pc : Nat) (L : LV) (M : HM) (k n : Nat) (r : List Value) (x : Int64) (y : Int32), ex_i own nL rt ini cs Q G .lushr pc L (.int y :: .long x :: r) M k n = G (pc + 1) L (.long ((x.toUInt64 >>> (y.toInt64.toUInt64 &&& Int64.toUInt64 63)).toInt64) :: r) M k n) ∧
  (∀ (own nL rt : Nat) (ini : Bool) (cs : CS) (Q : QT) (G : GT) (pc : Nat) (L : LV) (M : HM) (k n : Nat) (r : List Value) (x : Int32), ex_i own nL rt ini cs Q G .dup pc L (.int x :: r) M k n = G (pc + 1) L (.int x :: .int x :: r) M k n) ∧
  (∀ (own nL rt : Nat) (ini : Bool) (cs : CS) (Q : QT) (G : GT) (pc : Nat) (L : LV) (M : HM) (k n : Nat) (r : List Value) (x : Nat), ex_i own nL rt ini cs Q G .dup pc L (.ref x :: r) M k n = G (pc + 1) L (.ref x :: .ref x :: r) M k n) ∧
  (∀ (own nL rt : Nat) (ini : Bool) (cs : CS) (Q : QT) (G : GT) (pc : Nat) (L : LV) (M : HM) (k n : Nat) (r : List Value) (x : Int64), ex_i own nL rt ini cs Q G .dup2 pc L (.long x :: r) M k n = G (pc + 1) L (.long x :: .long x :: r) M k n) ∧
  (∀ (own nL rt : Nat) (ini : Bool) (cs : CS) (Q : QT) (G : GT) (pc : Nat) (L : LV) (M : HM) (k n : Nat) (r : List Value) (x y : Int32), ex_i own nL rt ini cs Q G .dup2 pc L (.int y :: .int x :: r) M k n = G (pc + 1) L (.int y :: .int x :: .int y :: .int x :: r) M k n) ∧
  (∀ (own nL rt : Nat) (ini : Bool) (cs : CS) (Q : QT) (G : GT) (pc : Nat) (L : LV) (M : HM) (k n : Nat) (r : List Value) (x : Nat) (y : Int32), ex_i own nL rt ini cs Q G .dup2 pc L (.int y :: .ref x :: r) M k n = G (pc + 1) L (.int y :: .ref x :: .int y :: .ref x :: r) M k n) ∧
  (∀ (own nL rt : Nat) (ini : Bool) (cs : CS) (Q : QT) (G : GT) (pc : Nat) (L : LV) (M : HM) (k n : Nat) (r : List Value) (o : Int) (x : Int32), ex_i own nL rt ini cs Q G (.ifCond .eq o) pc L (.int x :: r) M k n = (e_jo pc o ∧ if x = 0 then G (e_jt pc o) L r M k n else G (pc + 3) L r M k n)) ∧
  (∀ (own nL rt : Nat) (ini : Bool) (cs : CS) (Q : QT) (G : GT) (pc : Nat) (L : LV) (M : HM) (k n : Nat) (r : List Value) (o : Int) (x y : Int32), ex_i own nL rt ini cs Q G (.if_icmp .eq o) pc L (.int y :: .int x :: r) M k n = (e_jo pc o ∧ if x = y then G (e_jt pc o) L r M k n else G (pc + 3) L r M k n)) ∧
  (∀ (own nL rt : Nat) (ini : Bool) (cs : CS) (Q : QT) (G : GT) (pc : Nat) (L : LV) (M : HM) (k n : Nat) (r : List Value) (o : Int) (x : Int32), ex_i own nL rt ini cs Q G (.ifCond .ne o) pc L (.int x :: r) M k n = (e_jo pc o ∧ if x = 0 then G (pc + 3) L r M k n else G (e_jt pc o) L r M k n)) ∧
  (∀ (own nL rt : Nat) (ini : Bool) (cs : CS) (Q : QT) (G : GT) (pc : Nat) (L : LV) (M : HM) (k n : Nat) (r : List Value) (o : Int) (x y : Int32), ex_i own nL rt ini cs Q G (.if_icmp .ne o) pc L (.int y :: .int x :: r) M k n = (e_jo pc o ∧ if x = y then G (pc + 3) L r M k n else G (e_jt pc o) L r M k n)) ∧
  (∀ (own nL rt : Nat) (ini : Bool) (cs : CS) (Q : QT) (G : GT) (pc : Nat) (L : LV) (M : HM) (k n : Nat) (r : List Value) (o : Int) (x : Int32), ex_i own nL rt ini cs Q G (.ifCond .lt o) pc L (.int x :: r) M k n = (e_jo pc o ∧ if x < 0 then G (e_jt pc o) L r M k n else G (pc + 3) L r M k n)) ∧
  (∀ (own nL rt : Nat) (ini : Bool) (cs : CS) (Q : QT) (G : GT) (pc : Nat) (L : LV) (M : HM) (k n : Nat) (r : List Value) (o : Int) (x y : Int32), ex_i own nL rt ini cs Q G (.if_icmp .lt o) pc L (.int y :: .int x :: r) M k n = (e_jo pc o ∧ if x < y then G (e_jt pc o) L r M k n else G (pc + 3) L r M k n)) ∧
  (∀ (own nL rt : Nat) (ini : Bool) (cs : CS) (Q : QT) (G : GT) (pc : Nat) (L : LV) (M : HM) (k n : Nat) (r : List Value) (o : Int) (x : Int32), ex_i own nL rt ini cs Q G (.ifCond .ge o) pc L (.int x :: r) M k n = (e_jo pc o ∧ if x < 0 then G (pc + 3) L r M k n else G (e_jt pc o) L r M k n)) ∧
  (∀ (own nL rt : Nat) (ini : Bool) (cs : CS) (Q : QT) (G : GT) (pc : Nat) (L : LV) (M : HM) (k n : Nat) (r : List Value) (o : Int) (x y : Int32), ex_i own nL rt ini cs Q G (.if_icmp .ge o) pc L (.int y :: .int x :: r) M k n = (e_jo pc o ∧ if x < y then G (pc + 3) L r M k n else G (e_jt pc o) L r M k n)) ∧
  (∀ (own nL rt : Nat) (ini : Bool) (cs : CS) (Q : QT) (G : GT) (pc : Nat) (L : LV) (M : HM) (k n : Nat) (r : List Value) (o : Int) (x : Int32), ex_i own nL rt ini cs Q G (.ifCond .gt o) pc L (.int x :: r) M k n = (e_jo pc o ∧ if 0 < x then G (e_jt pc o) L r M k n else G (pc + 3) L r M k n)) ∧
  (∀ (own nL rt : Nat) (ini : Bool) (cs : CS) (Q : QT) (G : GT) (pc : Nat) (L : LV) (M : HM) (k n : Nat) (r : List Value) (o : Int) (x y : Int32), ex_i own nL rt ini cs Q G (.if_icmp .gt o) pc L (.int y :: .int x :: r) M k n = (e_jo pc o ∧ if y < x then G (e_jt pc o) L r M k n else G (pc + 3) L r M k n)) :=
  ⟨(fun own nL rt ini cs Q G pc L M k n r x y => rfl),
  (fun own nL rt ini cs Q G pc L M k n r x y => rfl),
  (fun own nL rt ini cs Q G pc L M k n r x y => rfl),
  (fun own nL rt ini cs Q G pc L M k n r x y => rfl),
  (fun own nL rt ini cs Q G pc L M k n r x => rfl),
  (fun own nL rt ini cs Q G pc L M k n r x => rfl),
  (fun own nL rt ini cs Q G pc L M k n r x => rfl),
  (fun own nL rt ini cs Q G pc L M k n r x y => rfl),
  (fun own nL rt ini cs Q G pc L M k n r x y => rfl),
  (fun own nL rt ini cs Q G pc L M k n r o x => congrArg (And _) (itp (c := x = 0))),
  (fun own nL rt ini cs Q G pc L M k n r o x y => congrArg (And _) (itp (c := x = y))),
  (fun own nL rt ini cs Q G pc L M k n r o x => congrArg (And _) (itn (c := x = 0))),
  (fun own nL rt ini cs Q G pc L M k n r o x y => congrArg (And _) (itn (c := x = y))),
  (fun own nL rt ini cs Q G pc L M k n r o x => congrArg (And _) (itp (c := x < 0))),
  (fun own nL rt ini cs Q G pc L M k n r o x y => congrArg (And _) (itp (c := x < y))),
  (fun own nL rt ini cs Q G pc L M k n r o x => congrArg (And _) (itn (c := x < 0))),
  (fun own nL rt ini cs Q G pc L M k n r o x y => congrArg (And _) (itn (c := x < y))),
  (fun own nL rt ini cs Q G pc L M k n r o x => congrArg (And _) (itp (c := 0 < x))),
  (fun own nL rt ini cs Q G pc L M k n r o x y => congrArg (And _) (itp (c := y < x)))⟩
theorem xis3 : (∀ (own nL rt : Nat) (ini : Bool) (cs : CS) (Q : QT) (G : GT) (pc : Nat) (L : LV) (M : HM) (k n : Nat) (r : List Value) (o : Int) (x : Int32), ex_i own nL rt ini cs Q G (.ifCond .le o) pc L (.int x :: r) M k n = (e_jo pc o ∧ if 0 < x then G (pc + 3) L r M k n else G (e_jt pc o) L r M k n)) ∧
  (∀ (own nL rt : Nat) (ini : Bool) (cs : CS) (Q : QT) (G : GT) (pc : Nat) (L : LV) (M : HM) (k n : Nat) (r : List Value) (o : Int) (x y : Int32), ex_i own nL rt ini cs Q G (.if_icmp .le o) pc L (.int y :: .int x :: r) M k n = (e_jo pc o ∧ if y < x then G (pc + 3) L r M k n else G (e_jt pc o) L r M k n)) ∧
  (∀ (own nL rt : Nat) (ini : Bool) (cs : CS) (Q : QT) (G : GT) (pc : Nat) (L : LV) (M : HM) (k n : Nat) (r : List Value) (o : Int), ex_i own nL rt ini cs Q G (.ifnull o) pc L (.null :: r) M k n = (e_jo pc o ∧ G (e_jt pc o) L r M k n)) ∧
  (∀ (own nL rt : Nat) (ini : Bool) (cs : CS) (Q : QT) (G : GT) (pc : Nat) (L : LV) (M : HM) (k n : Nat) (r : List Value) (o : Int) (a : Nat), ex_i own nL rt ini cs Q G (.ifnull o) pc L (.ref a :: r) M k n = (e_jo pc o ∧ G (pc + 3) L r M k n)) ∧
  (∀ (own nL rt : Nat) (ini : Bool) (cs : CS) (Q : QT) (G : GT) (pc : Nat) (L : LV) (M : HM) (k n : Nat) (r : List Value) (o : Int), ex_i own nL rt ini cs Q G (.ifnonnull o) pc L (.null :: r) M k n = (e_jo pc o ∧ G (pc + 3) L r M k n)) ∧
  (∀ (own nL rt : Nat) (ini : Bool) (cs : CS) (Q : QT) (G : GT) (pc : Nat) (L : LV) (M : HM) (k n : Nat) (r : List Value) (o : Int) (a : Nat), ex_i own nL rt ini cs Q G (.ifnonnull o) pc L (.ref a :: r) M k n = (e_jo pc o ∧ G (e_jt pc o) L r M k n)) ∧
  (∀ (own nL rt : Nat) (ini : Bool) (cs : CS) (Q : QT) (G : GT) (pc : Nat) (L : LV) (M : HM) (k n : Nat) (st : List Value) (o : Int), ex_i own nL rt ini cs Q G (.goto o) pc L st M k n = (e_jo pc o ∧ G (e_jt pc o) L st M k n)) ∧
  (∀ (own nL rt : Nat) (ini : Bool) (cs : CS) (Q : QT) (G : GT) (pc : Nat) (L : LV) (M : HM) (k n : Nat) (r : List Value) (x : Int32) (d lo hi : Int) (os : Array Int), ex_i own nL rt ini cs Q G (.tableswitch d lo hi os) pc L (.int x :: r) M k n = (hi = lo + os.toList.length - 1 ∧ e_tw G pc L r M k n d x lo os.toList)) ∧
  (∀ (own nL rt : Nat) (ini : Bool) (cs : CS) (Q : QT) (G : GT) (pc : Nat) (L : LV) (M : HM) (k n : Nat) (r : List Value) (x : Int32) (d : Int) (ps : Array (Int × Int)), ex_i own nL rt ini cs Q G (.lookupswitch d ps) pc L (.int x :: r) M k n = ((ps.toList.zip (ps.toList.drop 1)).all (fun (a, next) => a.1 < next.1) = true ∧ e_lw G pc L r M k n d x ps.toList)) ∧
  (∀ (own nL rt : Nat) (ini : Bool) (cs : CS) (Q : QT) (G : GT) (pc : Nat) (L : LV) (M : HM) (k n : Nat) (r : List Value) (a : Nat), ex_i own nL rt ini cs Q G .arraylength pc L (.ref a :: r) M k n = ((mK M a = 9 ∨ mK M a = 10 ∨ mK M a = 11 ∨ mK M a = 12 ∨ mK M a = 13) ∧ G (pc + 1) L (.int (Int32.ofNat (mN M a)) :: r) M k n)) ∧
  (∀ (own nL rt : Nat) (ini : Bool) (cs : CS) (Q : QT) (G : GT) (pc : Nat) (L : LV) (M : HM) (k n : Nat) (r : List Value) (a : Nat) (j : Int32), ex_i own nL rt ini cs Q G .iaload pc L (.int j :: .ref a :: r) M k n = ((mK M a = 9 ∨ mK M a = 20) ∧ vp_in j (mN M a) ∧ G (pc + 1) L (.int (aI M a j.toNatClampNeg) :: r) M k n)) ∧
  (∀ (own nL rt : Nat) (ini : Bool) (cs : CS) (Q : QT) (G : GT) (pc : Nat) (L : LV) (M : HM) (k n : Nat) (r : List Value) (a : Nat) (j : Int32), ex_i own nL rt ini cs Q G .laload pc L (.int j :: .ref a :: r) M k n = (mK M a = 10 ∧ vp_in j (mN M a) ∧ G (pc + 1) L (.long (aL M a j.toNatClampNeg) :: r) M k n)) ∧
  (∀ (own nL rt : Nat) (ini : Bool) (cs : CS) (Q : QT) (G : GT) (pc : Nat) (L : LV) (M : HM) (k n : Nat) (r : List Value) (a : Nat) (j : Int32), ex_i own nL rt ini cs Q G .aaload pc L (.int j :: .ref a :: r) M k n = ((mK M a = 11 ∨ mK M a = 12 ∨ mK M a = 13) ∧ vp_in j (mN M a) ∧ G (pc + 1) L (va_rf (aR M a j.toNatClampNeg) :: r) M k n)) ∧
  (∀ (own nL rt : Nat) (ini : Bool) (cs : CS) (Q : QT) (G : GT) (pc : Nat) (L : LV) (M : HM) (k n : Nat) (r : List Value) (a : Nat) (j x : Int32), ex_i own nL rt ini cs Q G .iastore pc L (.int x :: .int j :: .ref a :: r) M k n = (mK M a = 9 ∧ vp_in j (mN M a) ∧ G (pc + 1) L r (tI M a j.toNatClampNeg x) k n)) ∧
  (∀ (own nL rt : Nat) (ini : Bool) (cs : CS) (Q : QT) (G : GT) (pc : Nat) (L : LV) (M : HM) (k n : Nat) (r : List Value) (a : Nat) (j : Int32) (x : Int64), ex_i own nL rt ini cs Q G .lastore pc L (.long x :: .int j :: .ref a :: r) M k n = (mK M a = 10 ∧ vp_in j (mN M a) ∧ G (pc + 1) L r (tL M a j.toNatClampNeg x) k n)) ∧
  (∀ (own nL rt : Nat) (ini : Bool) (cs : CS) (Q : QT) (G : GT) (pc : Nat) (L : LV) (M : HM) (k n : Nat) (r : List Value) (a b : Nat) (j : Int32), ex_i own nL rt ini cs Q G .aastore pc L (.ref b :: .int j :: .ref a :: r) M k n = ((mK M a = 11 ∨ mK M a = 12 ∨ mK M a = 13) ∧ vp_in j (mN M a) ∧ mK M b = e_kc (mK M a) + 1 ∧ G (pc + 1) L r (tR M a j.toNatClampNeg (some b)) k n)) ∧
  (∀ (own nL rt : Nat) (ini : Bool) (cs : CS) (Q : QT) (G : GT) (pc : Nat) (L : LV) (M : HM) (k n : Nat) (r : List Value) (a : Nat) (j : Int32), ex_i own nL rt ini cs Q G .aastore pc L (.null :: .int j :: .ref a :: r) M k n = ((mK M a = 11 ∨ mK M a = 12 ∨ mK M a = 13) ∧ vp_in j (mN M a) ∧ G (pc + 1) L r (tR M a j.toNatClampNeg none) k n)) ∧
  (∀ (own nL rt : Nat) (ini : Bool) (cs : CS) (Q : QT) (G : GT) (pc : Nat) (L : LV) (M : HM) (k n : Nat) (st : List Value) (x : Nat), ex_i own nL rt ini cs Q G (.ldc x) pc L st M k n = ((tK own x).isSome = true ∧ G (pc + 2) L (.int ((tK own x).getD 0) :: st) M k n)) ∧
  (∀ (own nL rt : Nat) (ini : Bool) (cs : CS) (Q : QT) (G : GT) (pc : Nat) (L : LV) (M : HM) (k n : Nat) (st : List Value) (x : Nat), ex_i own nL rt ini cs Q G (.ldc_w x) pc L st M k n = ((tK own x).isSome = true ∧ G (pc + 3) L (.int ((tK own x).getD 0) :: st) M k n)) :=
  ⟨(fun own nL rt ini cs Q G pc L M k n r o x => congrArg (And _) (itn (c := 0 < x))),
  (fun own nL rt ini cs Q G pc L M k n r o x y => congrArg (And _) (itn (c := y < x))),
  (fun own nL rt ini cs Q G pc L M k n r o => rfl),
  (fun own nL rt ini cs Q G pc L M k n r o a => rfl),
  (fun own nL rt ini cs Q G pc L M k n r o => rfl),
  (fun own nL rt ini cs Q G pc L M k n r o a => rfl),
  (fun own nL rt ini cs Q G pc L M k n st o => rfl),
  (fun own nL rt ini cs Q G pc L M k n r x d lo hi os => congrArg (And _) (e_tw_e _ _)),
  (fun own nL rt ini cs Q G pc L M k n r x d ps => congrArg (And _) (e_lw_e _)),
  (fun own nL rt ini cs Q G pc L M k n r a => rfl),
  (fun own nL rt ini cs Q G pc L M k n r a j => rfl),
  (fun own nL rt ini cs Q G pc L M k n r a j => rfl),
  (fun own nL rt ini cs Q G pc L M k n r a j => rfl),
  (fun own nL rt ini cs Q G pc L M k n r a j x => rfl),
  (fun own nL rt ini cs Q G pc L M k n r a j x => rfl),
  (fun own nL rt ini cs Q G pc L M k n r a b j => by simp [ex_i, e_rir]),
  (fun own nL rt ini cs Q G pc L M k n r a j => by simp [ex_i, e_rir]),
  (fun own nL rt ini cs Q G pc L M k n st x => by simp only [ex_i]; cases h : tK own x <;> simp),
  (fun own nL rt ini cs Q G pc L M k n st x => by simp only [ex_i]; cases h : tK own x <;> simp)⟩
theorem xis4 : (∀ (own nL rt : Nat) (ini : Bool) (cs : CS) (Q : QT) (G : GT) (pc : Nat) (L : LV) (M : HM) (k n : Nat) (st : List Value) (x : Nat), ex_i own nL rt ini cs Q G (.ldc2_w x) pc L st M k n = ((tJ own x).isSome = true ∧ G (pc + 3) L (.long ((tJ own x).getD 0) :: st) M k n)) ∧
  (∀ (own nL rt : Nat) (ini : Bool) (cs : CS) (Q : QT) (G : GT) (pc : Nat) (L : LV) (M : HM) (k n : Nat) (r : List Value) (x a : Nat), ex_i own nL rt ini cs Q G (.getfield x) pc L (.ref a :: r) M k n = ((tF own x).isSome = true ∧ mK M a = ((tF own x).getD (0, 0, false)).1 / 32 + 1 ∧ G (pc + 3) L (e_fv M ((tF own x).getD (0, 0, false)).1 ((tF own x).getD (0, 0, false)).2.1 a :: r) M k n)) ∧
  (∀ (own nL rt : Nat) (ini : Bool) (cs : CS) (Q : QT) (G : GT) (pc : Nat) (L : LV) (M : HM) (k n : Nat) (r : List Value) (x a : Nat) (y : Int32), ex_i own nL rt ini cs Q G (.putfield x) pc L (.int y :: .ref a :: r) M k n = ((tF own x).isSome = true ∧ ((tF own x).getD (0, 0, false)).2.1 = 0 ∧ (((tF own x).getD (0, 0, false)).2.2 = false ∨ (ini = true ∧ own = ((tF own x).getD (0, 0, false)).1 / 32)) ∧ mK M a = ((tF own x).getD (0, 0, false)).1 / 32 + 1 ∧ G (pc + 3) L r (sI M ((tF own x).getD (0, 0, false)).1 a y) k n)) ∧
  (∀ (own nL rt : Nat) (ini : Bool) (cs : CS) (Q : QT) (G : GT) (pc : Nat) (L : LV) (M : HM) (k n : Nat) (r : List Value) (x a : Nat) (y : Int64), ex_i own nL rt ini cs Q G (.putfield x) pc L (.long y :: .ref a :: r) M k n = ((tF own x).isSome = true ∧ ((tF own x).getD (0, 0, false)).2.1 = 1 ∧ (((tF own x).getD (0, 0, false)).2.2 = false ∨ (ini = true ∧ own = ((tF own x).getD (0, 0, false)).1 / 32)) ∧ mK M a = ((tF own x).getD (0, 0, false)).1 / 32 + 1 ∧ G (pc + 3) L r (sL M ((tF own x).getD (0, 0, false)).1 a y) k n)) ∧
  (∀ (own nL rt : Nat) (ini : Bool) (cs : CS) (Q : QT) (G : GT) (pc : Nat) (L : LV) (M : HM) (k n : Nat) (r : List Value) (x a b : Nat), ex_i own nL rt ini cs Q G (.putfield x) pc L (.ref b :: .ref a :: r) M k n = ((tF own x).isSome = true ∧ ((tF own x).getD (0, 0, false)).2.1 = 2 ∧ (((tF own x).getD (0, 0, false)).2.2 = false ∨ (ini = true ∧ own = ((tF own x).getD (0, 0, false)).1 / 32)) ∧ mK M a = ((tF own x).getD (0, 0, false)).1 / 32 + 1 ∧ G (pc + 3) L r (sR M ((tF own x).getD (0, 0, false)).1 a (some b)) k n)) ∧
  (∀ (own nL rt : Nat) (ini : Bool) (cs : CS) (Q : QT) (G : GT) (pc : Nat) (L : LV) (M : HM) (k n : Nat) (r : List Value) (x a : Nat), ex_i own nL rt ini cs Q G (.putfield x) pc L (.null :: .ref a :: r) M k n = ((tF own x).isSome = true ∧ ((tF own x).getD (0, 0, false)).2.1 = 2 ∧ (((tF own x).getD (0, 0, false)).2.2 = false ∨ (ini = true ∧ own = ((tF own x).getD (0, 0, false)).1 / 32)) ∧ mK M a = ((tF own x).getD (0, 0, false)).1 / 32 + 1 ∧ G (pc + 3) L r (sR M ((tF own x).getD (0, 0, false)).1 a none) k n)) ∧
  (∀ (own nL rt : Nat) (ini : Bool) (cs : CS) (Q : QT) (G : GT) (pc : Nat) (L : LV) (M : HM) (k n : Nat) (st : List Value) (x : Nat), ex_i own nL rt ini cs Q G (.getstatic x) pc L st M k n = ((tS own x).isSome = true ∧ ∀ t, mK M t = 20 → mN M t = 5 → aI M t = e_sa ((tS own x).getD 0) → G (pc + 3) L (.ref t :: st) M k n)) ∧
  (∀ (own nL rt : Nat) (ini : Bool) (cs : CS) (Q : QT) (G : GT) (pc : Nat) (L : LV) (M : HM) (k n : Nat) (st : List Value) (x : Nat), ex_i own nL rt ini cs Q G (.new x) pc L st M k n = ((tC own x).isSome = true ∧ 1 ≤ k ∧ e_nf ((tC own x).getD 0) ≤ n ∧ ∀ q, mK M q = 0 → G (pc + 3) L (.ref q :: st) (nO M ((tC own x).getD 0) q) (k - 1) (n - e_nf ((tC own x).getD 0)))) ∧
  (∀ (own nL rt : Nat) (ini : Bool) (cs : CS) (Q : QT) (G : GT) (pc : Nat) (L : LV) (M : HM) (k n : Nat) (r : List Value) (z : Int32), ex_i own nL rt ini cs Q G (.newarray .int) pc L (.int z :: r) M k n = (¬ z < 0 ∧ z.toNatClampNeg ≤ 1000000 ∧ 1 ≤ k ∧ z.toNatClampNeg ≤ n ∧ ∀ q, mK M q = 0 → G (pc + 2) L (.ref q :: r) (nA M 9 q z.toNatClampNeg) (k - 1) (n - z.toNatClampNeg))) ∧
  (∀ (own nL rt : Nat) (ini : Bool) (cs : CS) (Q : QT) (G : GT) (pc : Nat) (L : LV) (M : HM) (k n : Nat) (r : List Value) (z : Int32), ex_i own nL rt ini cs Q G (.newarray .long) pc L (.int z :: r) M k n = (¬ z < 0 ∧ z.toNatClampNeg ≤ 1000000 ∧ 1 ≤ k ∧ z.toNatClampNeg ≤ n ∧ ∀ q, mK M q = 0 → G (pc + 2) L (.ref q :: r) (nA M 10 q z.toNatClampNeg) (k - 1) (n - z.toNatClampNeg))) ∧
  (∀ (own nL rt : Nat) (ini : Bool) (cs : CS) (Q : QT) (G : GT) (pc : Nat) (L : LV) (M : HM) (k n : Nat) (r : List Value) (x : Nat) (z : Int32), ex_i own nL rt ini cs Q G (.anewarray x) pc L (.int z :: r) M k n = ((tC own x).isSome = true ∧ (((tC own x).getD 0) = 0 ∨ ((tC own x).getD 0) = 4 ∨ ((tC own x).getD 0) = 5) ∧ ¬ z < 0 ∧ z.toNatClampNeg ≤ 1000000 ∧ 1 ≤ k ∧ z.toNatClampNeg ≤ n ∧ ∀ q, mK M q = 0 → G (pc + 3) L (.ref q :: r) (nA M (e_ak ((tC own x).getD 0)) q z.toNatClampNeg) (k - 1) (n - z.toNatClampNeg))) ∧
  (∀ (own nL rt : Nat) (ini : Bool) (cs : CS) (Q : QT) (G : GT) (pc : Nat) (L : LV) (M : HM) (k n : Nat) (v : Int32), ex_i own nL rt ini cs Q G .ireturn pc L [.int v] M k n = ((rt = 1 ∨ (rt = 4 ∧ (v = 0 ∨ v = 1))) ∧ Q (some (.int v)) M k n)) ∧
  (∀ (own nL rt : Nat) (ini : Bool) (cs : CS) (Q : QT) (G : GT) (pc : Nat) (L : LV) (M : HM) (k n : Nat) (v : Int64), ex_i own nL rt ini cs Q G .lreturn pc L [.long v] M k n = (rt = 2 ∧ Q (some (.long v)) M k n)) ∧
  (∀ (own nL rt : Nat) (ini : Bool) (cs : CS) (Q : QT) (G : GT) (pc : Nat) (L : LV) (M : HM) (k n : Nat) (v : Value), ex_i own nL rt ini cs Q G .areturn pc L [v] M k n = (rt = 3 ∧ isR v ∧ Q (some v) M k n)) ∧
  (∀ (own nL rt : Nat) (ini : Bool) (cs : CS) (Q : QT) (G : GT) (pc : Nat) (L : LV) (M : HM) (k n : Nat) , ex_i own nL rt ini cs Q G .return_ pc L [] M k n = (rt = 0 ∧ Q none M k n)) :=
  ⟨(fun own nL rt ini cs Q G pc L M k n st x => by simp only [ex_i]; cases h : tJ own x <;> simp),
  (fun own nL rt ini cs Q G pc L M k n r x a => by simp only [ex_i]; cases h : tF own x <;> simp [e_r1]),
  (fun own nL rt ini cs Q G pc L M k n r x a y => by simp only [ex_i]; cases h : tF own x with | none => simp | some q => (obtain ⟨f, tg, fin⟩ := q; simp only [Option.isSome_some, Option.getD_some, true_and]; match tg with | 0 => simp [e_pt] | 1 => simp [e_pt] | 2 => simp [e_pt] | j + 3 => simp [e_pt])),
  (fun own nL rt ini cs Q G pc L M k n r x a y => by simp only [ex_i]; cases h : tF own x with | none => simp | some q => (obtain ⟨f, tg, fin⟩ := q; simp only [Option.isSome_some, Option.getD_some, true_and]; match tg with | 0 => simp [e_pt] | 1 => simp [e_pt] | 2 => simp [e_pt] | j + 3 => simp [e_pt])),
  (fun own nL rt ini cs Q G pc L M k n r x a b => by simp only [ex_i]; cases h : tF own x with | none => simp | some q => (obtain ⟨f, tg, fin⟩ := q; simp only [Option.isSome_some, Option.getD_some, true_and]; match tg with | 0 => simp [e_pt] | 1 => simp [e_pt] | 2 => simp [e_pt] | j + 3 => simp [e_pt])),
  (fun own nL rt ini cs Q G pc L M k n r x a => by simp only [ex_i]; cases h : tF own x with | none => simp | some q => (obtain ⟨f, tg, fin⟩ := q; simp only [Option.isSome_some, Option.getD_some, true_and]; match tg with | 0 => simp [e_pt] | 1 => simp [e_pt] | 2 => simp [e_pt] | j + 3 => simp [e_pt])),
  (fun own nL rt ini cs Q G pc L M k n st x => by simp only [ex_i]; cases h : tS own x <;> simp),
  (fun own nL rt ini cs Q G pc L M k n st x => by simp only [ex_i]; cases h : tC own x <;> simp),
  (fun own nL rt ini cs Q G pc L M k n r z => rfl),
  (fun own nL rt ini cs Q G pc L M k n r z => rfl),
  (fun own nL rt ini cs Q G pc L M k n r x z => by simp only [ex_i]; cases h : tC own x <;> simp [e_i1]),
  (fun own nL rt ini cs Q G pc L M k n v => rfl),
  (fun own nL rt ini cs Q G pc L M k n v => rfl),
  (fun own nL rt ini cs Q G pc L M k n v => rfl),
  (fun own nL rt ini cs Q G pc L M k n  => rfl)⟩
theorem e_wp_s {own nL rt : Nat} {ini : Bool} {cc : ByteArray} {cs : CS} {Q : QT} {G : GT} {cuts : List (Nat × List Nat)} {f pc : Nat} {L : LV} {st : List Value} {M : HM} {k n : Nat} : e_wp own nL rt ini cc cs Q G cuts (f + 1) pc L st M k n = if (cuts.lookup pc).isSome = true then G pc (e_pk ((cuts.lookup pc).getD []) L) st M k n else ex_i own nL rt ini cs Q (e_wp own nL rt ini cc cs Q G cuts f) ((dec cc pc).getD .nop) pc L st M k n := by
  rw [e_wp]
  cases h : cuts.lookup pc with
  | some ks => simp
  | none =>
    simp only [ex_1]
    cases h2 : dec cc pc <;> simp [ex_i]
theorem e_g2 {own nL rt : Nat} {ini : Bool} {cc : ByteArray} {cs : CS} {Q : QT} {G : GT} (h : e_cl own nL rt ini cc cs Q G) (cuts : List (Nat × List Nat)) (f : Nat) {pc : Nat} {L : LV} {st : List Value} {M : HM} {k n : Nat} (hw : ex_i own nL rt ini cs Q (e_wp own nL rt ini cc cs Q G cuts f) ((dec cc pc).getD .nop) pc L st M k n) : G pc L st M k n := by
  refine e_go h cuts f ?_
  simp only [ex_1]
  cases h2 : dec cc pc with
  | none => rw [h2] at hw; exact hw
  | some i => rw [h2] at hw; exact hw
theorem iv_0 {cs : CS} {op x c : Nat} {sp : SP} (h : cs op x = some (0, c, sp)) {z : Value} {r : List Value} {M : HM} {k n : Nat} {f : List Value → QT} : e_iv cs op x (r) M k n f = (e_rm r ∧ e_rc M c [] ∧ sp [] M k n (fun v M' k' n' => f (v.toList ++ r) v M' k' n')) := by
  simp [e_iv, h]
theorem iv_1 {cs : CS} {op x c : Nat} {sp : SP} (h : cs op x = some (1, c, sp)) {a0 : Value} {r : List Value} {M : HM} {k n : Nat} {f : List Value → QT} : e_iv cs op x (a0 :: r) M k n f = (e_rm r ∧ e_rc M c [a0] ∧ sp [a0] M k n (fun v M' k' n' => f (v.toList ++ r) v M' k' n')) := by
  simp [e_iv, h]
theorem iv_2 {cs : CS} {op x c : Nat} {sp : SP} (h : cs op x = some (2, c, sp)) {a0 a1 : Value} {r : List Value} {M : HM} {k n : Nat} {f : List Value → QT} : e_iv cs op x (a1 :: a0 :: r) M k n f = (e_rm r ∧ e_rc M c [a0, a1] ∧ sp [a0, a1] M k n (fun v M' k' n' => f (v.toList ++ r) v M' k' n')) := by
  simp [e_iv, h]
theorem iv_3 {cs : CS} {op x c : Nat} {sp : SP} (h : cs op x = some (3, c, sp)) {a0 a1 a2 : Value} {r : List Value} {M : HM} {k n : Nat} {f : List Value → QT} : e_iv cs op x (a2 :: a1 :: a0 :: r) M k n f = (e_rm r ∧ e_rc M c [a0, a1, a2] ∧ sp [a0, a1, a2] M k n (fun v M' k' n' => f (v.toList ++ r) v M' k' n')) := by
  simp [e_iv, h]
theorem iv_4 {cs : CS} {op x c : Nat} {sp : SP} (h : cs op x = some (4, c, sp)) {a0 a1 a2 a3 : Value} {r : List Value} {M : HM} {k n : Nat} {f : List Value → QT} : e_iv cs op x (a3 :: a2 :: a1 :: a0 :: r) M k n f = (e_rm r ∧ e_rc M c [a0, a1, a2, a3] ∧ sp [a0, a1, a2, a3] M k n (fun v M' k' n' => f (v.toList ++ r) v M' k' n')) := by
  simp [e_iv, h]
theorem iv_5 {cs : CS} {op x c : Nat} {sp : SP} (h : cs op x = some (5, c, sp)) {a0 a1 a2 a3 a4 : Value} {r : List Value} {M : HM} {k n : Nat} {f : List Value → QT} : e_iv cs op x (a4 :: a3 :: a2 :: a1 :: a0 :: r) M k n f = (e_rm r ∧ e_rc M c [a0, a1, a2, a3, a4] ∧ sp [a0, a1, a2, a3, a4] M k n (fun v M' k' n' => f (v.toList ++ r) v M' k' n')) := by
  simp [e_iv, h]
theorem iv_6 {cs : CS} {op x c : Nat} {sp : SP} (h : cs op x = some (6, c, sp)) {a0 a1 a2 a3 a4 a5 : Value} {r : List Value} {M : HM} {k n : Nat} {f : List Value → QT} : e_iv cs op x (a5 :: a4 :: a3 :: a2 :: a1 :: a0 :: r) M k n f = (e_rm r ∧ e_rc M c [a0, a1, a2, a3, a4, a5] ∧ sp [a0, a1, a2, a3, a4, a5] M k n (fun v M' k' n' => f (v.toList ++ r) v M' k' n')) := by
  simp [e_iv, h]
theorem iv_7 {cs : CS} {op x c : Nat} {sp : SP} (h : cs op x = some (7, c, sp)) {a0 a1 a2 a3 a4 a5 a6 : Value} {r : List Value} {M : HM} {k n : Nat} {f : List Value → QT} : e_iv cs op x (a6 :: a5 :: a4 :: a3 :: a2 :: a1 :: a0 :: r) M k n f = (e_rm r ∧ e_rc M c [a0, a1, a2, a3, a4, a5, a6] ∧ sp [a0, a1, a2, a3, a4, a5, a6] M k n (fun v M' k' n' => f (v.toList ++ r) v M' k' n')) := by
  simp [e_iv, h]
theorem iv_8 {cs : CS} {op x c : Nat} {sp : SP} (h : cs op x = some (8, c, sp)) {a0 a1 a2 a3 a4 a5 a6 a7 : Value} {r : List Value} {M : HM} {k n : Nat} {f : List Value → QT} : e_iv cs op x (a7 :: a6 :: a5 :: a4 :: a3 :: a2 :: a1 :: a0 :: r) M k n f = (e_rm r ∧ e_rc M c [a0, a1, a2, a3, a4, a5, a6, a7] ∧ sp [a0, a1, a2, a3, a4, a5, a6, a7] M k n (fun v M' k' n' => f (v.toList ++ r) v M' k' n')) := by
  simp [e_iv, h]
theorem xv0_0 {own nL rt : Nat} {ini : Bool} {cs : CS} {Q : QT} {G : GT} {pc : Nat} {L : LV} {x c : Nat} {sp : SP} {z : Value} {r : List Value} {M : HM} {k n : Nat} (h : cs 0 x = some (0, c, sp)) : ex_i own nL rt ini cs Q G (.invokevirtual x) pc L (r) M k n = (e_rm r ∧ e_rc M c [] ∧ sp [] M k n (fun v M' k' n' => G (pc + 3) L (v.toList ++ r) M' k' n')) := iv_0 (z := .null) h (f := fun s2 _ M' k' n' => G (pc + 3) L s2 M' k' n')
theorem xv0_1 {own nL rt : Nat} {ini : Bool} {cs : CS} {Q : QT} {G : GT} {pc : Nat} {L : LV} {x c : Nat} {sp : SP} {a0 : Value} {r : List Value} {M : HM} {k n : Nat} (h : cs 0 x = some (1, c, sp)) : ex_i own nL rt ini cs Q G (.invokevirtual x) pc L (a0 :: r) M k n = (e_rm r ∧ e_rc M c [a0] ∧ sp [a0] M k n (fun v M' k' n' => G (pc + 3) L (v.toList ++ r) M' k' n')) := iv_1 h (f := fun s2 _ M' k' n' => G (pc + 3) L s2 M' k' n')
theorem xv0_2 {own nL rt : Nat} {ini : Bool} {cs : CS} {Q : QT} {G : GT} {pc : Nat} {L : LV} {x c : Nat} {sp : SP} {a0 a1 : Value} {r : List Value} {M : HM} {k n : Nat} (h : cs 0 x = some (2, c, sp)) : ex_i own nL rt ini cs Q G (.invokevirtual x) pc L (a1 :: a0 :: r) M k n = (e_rm r ∧ e_rc M c [a0, a1] ∧ sp [a0, a1] M k n (fun v M' k' n' => G (pc + 3) L (v.toList ++ r) M' k' n')) := iv_2 h (f := fun s2 _ M' k' n' => G (pc + 3) L s2 M' k' n')
theorem xv0_3 {own nL rt : Nat} {ini : Bool} {cs : CS} {Q : QT} {G : GT} {pc : Nat} {L : LV} {x c : Nat} {sp : SP} {a0 a1 a2 : Value} {r : List Value} {M : HM} {k n : Nat} (h : cs 0 x = some (3, c, sp)) : ex_i own nL rt ini cs Q G (.invokevirtual x) pc L (a2 :: a1 :: a0 :: r) M k n = (e_rm r ∧ e_rc M c [a0, a1, a2] ∧ sp [a0, a1, a2] M k n (fun v M' k' n' => G (pc + 3) L (v.toList ++ r) M' k' n')) := iv_3 h (f := fun s2 _ M' k' n' => G (pc + 3) L s2 M' k' n')
theorem xv0_4 {own nL rt : Nat} {ini : Bool} {cs : CS} {Q : QT} {G : GT} {pc : Nat} {L : LV} {x c : Nat} {sp : SP} {a0 a1 a2 a3 : Value} {r : List Value} {M : HM} {k n : Nat} (h : cs 0 x = some (4, c, sp)) : ex_i own nL rt ini cs Q G (.invokevirtual x) pc L (a3 :: a2 :: a1 :: a0 :: r) M k n = (e_rm r ∧ e_rc M c [a0, a1, a2, a3] ∧ sp [a0, a1, a2, a3] M k n (fun v M' k' n' => G (pc + 3) L (v.toList ++ r) M' k' n')) := iv_4 h (f := fun s2 _ M' k' n' => G (pc + 3) L s2 M' k' n')
theorem xv0_5 {own nL rt : Nat} {ini : Bool} {cs : CS} {Q : QT} {G : GT} {pc : Nat} {L : LV} {x c : Nat} {sp : SP} {a0 a1 a2 a3 a4 : Value} {r : List Value} {M : HM} {k n : Nat} (h : cs 0 x = some (5, c, sp)) : ex_i own nL rt ini cs Q G (.invokevirtual x) pc L (a4 :: a3 :: a2 :: a1 :: a0 :: r) M k n = (e_rm r ∧ e_rc M c [a0, a1, a2, a3, a4] ∧ sp [a0, a1, a2, a3, a4] M k n (fun v M' k' n' => G (pc + 3) L (v.toList ++ r) M' k' n')) := iv_5 h (f := fun s2 _ M' k' n' => G (pc + 3) L s2 M' k' n')
theorem xv0_6 {own nL rt : Nat} {ini : Bool} {cs : CS} {Q : QT} {G : GT} {pc : Nat} {L : LV} {x c : Nat} {sp : SP} {a0 a1 a2 a3 a4 a5 : Value} {r : List Value} {M : HM} {k n : Nat} (h : cs 0 x = some (6, c, sp)) : ex_i own nL rt ini cs Q G (.invokevirtual x) pc L (a5 :: a4 :: a3 :: a2 :: a1 :: a0 :: r) M k n = (e_rm r ∧ e_rc M c [a0, a1, a2, a3, a4, a5] ∧ sp [a0, a1, a2, a3, a4, a5] M k n (fun v M' k' n' => G (pc + 3) L (v.toList ++ r) M' k' n')) := iv_6 h (f := fun s2 _ M' k' n' => G (pc + 3) L s2 M' k' n')
theorem xv0_7 {own nL rt : Nat} {ini : Bool} {cs : CS} {Q : QT} {G : GT} {pc : Nat} {L : LV} {x c : Nat} {sp : SP} {a0 a1 a2 a3 a4 a5 a6 : Value} {r : List Value} {M : HM} {k n : Nat} (h : cs 0 x = some (7, c, sp)) : ex_i own nL rt ini cs Q G (.invokevirtual x) pc L (a6 :: a5 :: a4 :: a3 :: a2 :: a1 :: a0 :: r) M k n = (e_rm r ∧ e_rc M c [a0, a1, a2, a3, a4, a5, a6] ∧ sp [a0, a1, a2, a3, a4, a5, a6] M k n (fun v M' k' n' => G (pc + 3) L (v.toList ++ r) M' k' n')) := iv_7 h (f := fun s2 _ M' k' n' => G (pc + 3) L s2 M' k' n')
theorem xv0_8 {own nL rt : Nat} {ini : Bool} {cs : CS} {Q : QT} {G : GT} {pc : Nat} {L : LV} {x c : Nat} {sp : SP} {a0 a1 a2 a3 a4 a5 a6 a7 : Value} {r : List Value} {M : HM} {k n : Nat} (h : cs 0 x = some (8, c, sp)) : ex_i own nL rt ini cs Q G (.invokevirtual x) pc L (a7 :: a6 :: a5 :: a4 :: a3 :: a2 :: a1 :: a0 :: r) M k n = (e_rm r ∧ e_rc M c [a0, a1, a2, a3, a4, a5, a6, a7] ∧ sp [a0, a1, a2, a3, a4, a5, a6, a7] M k n (fun v M' k' n' => G (pc + 3) L (v.toList ++ r) M' k' n')) := iv_8 h (f := fun s2 _ M' k' n' => G (pc + 3) L s2 M' k' n')
theorem xv1_0 {own nL rt : Nat} {ini : Bool} {cs : CS} {Q : QT} {G : GT} {pc : Nat} {L : LV} {x c : Nat} {sp : SP} {z : Value} {r : List Value} {M : HM} {k n : Nat} (h : cs 1 x = some (0, c, sp)) : ex_i own nL rt ini cs Q G (.invokespecial x) pc L (r) M k n = (e_rm r ∧ e_rc M c [] ∧ sp [] M k n (fun v M' k' n' => G (pc + 3) L (v.toList ++ r) M' k' n')) := iv_0 (z := .null) h (f := fun s2 _ M' k' n' => G (pc + 3) L s2 M' k' n')
theorem xv1_1 {own nL rt : Nat} {ini : Bool} {cs : CS} {Q : QT} {G : GT} {pc : Nat} {L : LV} {x c : Nat} {sp : SP} {a0 : Value} {r : List Value} {M : HM} {k n : Nat} (h : cs 1 x = some (1, c, sp)) : ex_i own nL rt ini cs Q G (.invokespecial x) pc L (a0 :: r) M k n = (e_rm r ∧ e_rc M c [a0] ∧ sp [a0] M k n (fun v M' k' n' => G (pc + 3) L (v.toList ++ r) M' k' n')) := iv_1 h (f := fun s2 _ M' k' n' => G (pc + 3) L s2 M' k' n')
theorem xv1_2 {own nL rt : Nat} {ini : Bool} {cs : CS} {Q : QT} {G : GT} {pc : Nat} {L : LV} {x c : Nat} {sp : SP} {a0 a1 : Value} {r : List Value} {M : HM} {k n : Nat} (h : cs 1 x = some (2, c, sp)) : ex_i own nL rt ini cs Q G (.invokespecial x) pc L (a1 :: a0 :: r) M k n = (e_rm r ∧ e_rc M c [a0, a1] ∧ sp [a0, a1] M k n (fun v M' k' n' => G (pc + 3) L (v.toList ++ r) M' k' n')) := iv_2 h (f := fun s2 _ M' k' n' => G (pc + 3) L s2 M' k' n')
theorem xv1_3 {own nL rt : Nat} {ini : Bool} {cs : CS} {Q : QT} {G : GT} {pc : Nat} {L : LV} {x c : Nat} {sp : SP} {a0 a1 a2 : Value} {r : List Value} {M : HM} {k n : Nat} (h : cs 1 x = some (3, c, sp)) : ex_i own nL rt ini cs Q G (.invokespecial x) pc L (a2 :: a1 :: a0 :: r) M k n = (e_rm r ∧ e_rc M c [a0, a1, a2] ∧ sp [a0, a1, a2] M k n (fun v M' k' n' => G (pc + 3) L (v.toList ++ r) M' k' n')) := iv_3 h (f := fun s2 _ M' k' n' => G (pc + 3) L s2 M' k' n')
theorem xv1_4 {own nL rt : Nat} {ini : Bool} {cs : CS} {Q : QT} {G : GT} {pc : Nat} {L : LV} {x c : Nat} {sp : SP} {a0 a1 a2 a3 : Value} {r : List Value} {M : HM} {k n : Nat} (h : cs 1 x = some (4, c, sp)) : ex_i own nL rt ini cs Q G (.invokespecial x) pc L (a3 :: a2 :: a1 :: a0 :: r) M k n = (e_rm r ∧ e_rc M c [a0, a1, a2, a3] ∧ sp [a0, a1, a2, a3] M k n (fun v M' k' n' => G (pc + 3) L (v.toList ++ r) M' k' n')) := iv_4 h (f := fun s2 _ M' k' n' => G (pc + 3) L s2 M' k' n')
theorem xv1_5 {own nL rt : Nat} {ini : Bool} {cs : CS} {Q : QT} {G : GT} {pc : Nat} {L : LV} {x c : Nat} {sp : SP} {a0 a1 a2 a3 a4 : Value} {r : List Value} {M : HM} {k n : Nat} (h : cs 1 x = some (5, c, sp)) : ex_i own nL rt ini cs Q G (.invokespecial x) pc L (a4 :: a3 :: a2 :: a1 :: a0 :: r) M k n = (e_rm r ∧ e_rc M c [a0, a1, a2, a3, a4] ∧ sp [a0, a1, a2, a3, a4] M k n (fun v M' k' n' => G (pc + 3) L (v.toList ++ r) M' k' n')) := iv_5 h (f := fun s2 _ M' k' n' => G (pc + 3) L s2 M' k' n')
theorem xv1_6 {own nL rt : Nat} {ini : Bool} {cs : CS} {Q : QT} {G : GT} {pc : Nat} {L : LV} {x c : Nat} {sp : SP} {a0 a1 a2 a3 a4 a5 : Value} {r : List Value} {M : HM} {k n : Nat} (h : cs 1 x = some (6, c, sp)) : ex_i own nL rt ini cs Q G (.invokespecial x) pc L (a5 :: a4 :: a3 :: a2 :: a1 :: a0 :: r) M k n = (e_rm r ∧ e_rc M c [a0, a1, a2, a3, a4, a5] ∧ sp [a0, a1, a2, a3, a4, a5] M k n (fun v M' k' n' => G (pc + 3) L (v.toList ++ r) M' k' n')) := iv_6 h (f := fun s2 _ M' k' n' => G (pc + 3) L s2 M' k' n')
theorem xv1_7 {own nL rt : Nat} {ini : Bool} {cs : CS} {Q : QT} {G : GT} {pc : Nat} {L : LV} {x c : Nat} {sp : SP} {a0 a1 a2 a3 a4 a5 a6 : Value} {r : List Value} {M : HM} {k n : Nat} (h : cs 1 x = some (7, c, sp)) : ex_i own nL rt ini cs Q G (.invokespecial x) pc L (a6 :: a5 :: a4 :: a3 :: a2 :: a1 :: a0 :: r) M k n = (e_rm r ∧ e_rc M c [a0, a1, a2, a3, a4, a5, a6] ∧ sp [a0, a1, a2, a3, a4, a5, a6] M k n (fun v M' k' n' => G (pc + 3) L (v.toList ++ r) M' k' n')) := iv_7 h (f := fun s2 _ M' k' n' => G (pc + 3) L s2 M' k' n')
theorem xv1_8 {own nL rt : Nat} {ini : Bool} {cs : CS} {Q : QT} {G : GT} {pc : Nat} {L : LV} {x c : Nat} {sp : SP} {a0 a1 a2 a3 a4 a5 a6 a7 : Value} {r : List Value} {M : HM} {k n : Nat} (h : cs 1 x = some (8, c, sp)) : ex_i own nL rt ini cs Q G (.invokespecial x) pc L (a7 :: a6 :: a5 :: a4 :: a3 :: a2 :: a1 :: a0 :: r) M k n = (e_rm r ∧ e_rc M c [a0, a1, a2, a3, a4, a5, a6, a7] ∧ sp [a0, a1, a2, a3, a4, a5, a6, a7] M k n (fun v M' k' n' => G (pc + 3) L (v.toList ++ r) M' k' n')) := iv_8 h (f := fun s2 _ M' k' n' => G (pc + 3) L s2 M' k' n')
theorem xv2_0 {own nL rt : Nat} {ini : Bool} {cs : CS} {Q : QT} {G : GT} {pc : Nat} {L : LV} {x c : Nat} {sp : SP} {z : Value} {r : List Value} {M : HM} {k n : Nat} (h : cs 2 x = some (0, c, sp)) : ex_i own nL rt ini cs Q G (.invokestatic x) pc L (r) M k n = (e_rm r ∧ e_rc M c [] ∧ sp [] M k n (fun v M' k' n' => G (pc + 3) L (v.toList ++ r) M' k' n')) := iv_0 (z := .null) h (f := fun s2 _ M' k' n' => G (pc + 3) L s2 M' k' n')
theorem xv2_1 {own nL rt : Nat} {ini : Bool} {cs : CS} {Q : QT} {G : GT} {pc : Nat} {L : LV} {x c : Nat} {sp : SP} {a0 : Value} {r : List Value} {M : HM} {k n : Nat} (h : cs 2 x = some (1, c, sp)) : ex_i own nL rt ini cs Q G (.invokestatic x) pc L (a0 :: r) M k n = (e_rm r ∧ e_rc M c [a0] ∧ sp [a0] M k n (fun v M' k' n' => G (pc + 3) L (v.toList ++ r) M' k' n')) := iv_1 h (f := fun s2 _ M' k' n' => G (pc + 3) L s2 M' k' n')
theorem xv2_2 {own nL rt : Nat} {ini : Bool} {cs : CS} {Q : QT} {G : GT} {pc : Nat} {L : LV} {x c : Nat} {sp : SP} {a0 a1 : Value} {r : List Value} {M : HM} {k n : Nat} (h : cs 2 x = some (2, c, sp)) : ex_i own nL rt ini cs Q G (.invokestatic x) pc L (a1 :: a0 :: r) M k n = (e_rm r ∧ e_rc M c [a0, a1] ∧ sp [a0, a1] M k n (fun v M' k' n' => G (pc + 3) L (v.toList ++ r) M' k' n')) := iv_2 h (f := fun s2 _ M' k' n' => G (pc + 3) L s2 M' k' n')
theorem xv2_3 {own nL rt : Nat} {ini : Bool} {cs : CS} {Q : QT} {G : GT} {pc : Nat} {L : LV} {x c : Nat} {sp : SP} {a0 a1 a2 : Value} {r : List Value} {M : HM} {k n : Nat} (h : cs 2 x = some (3, c, sp)) : ex_i own nL rt ini cs Q G (.invokestatic x) pc L (a2 :: a1 :: a0 :: r) M k n = (e_rm r ∧ e_rc M c [a0, a1, a2] ∧ sp [a0, a1, a2] M k n (fun v M' k' n' => G (pc + 3) L (v.toList ++ r) M' k' n')) := iv_3 h (f := fun s2 _ M' k' n' => G (pc + 3) L s2 M' k' n')
theorem xv2_4 {own nL rt : Nat} {ini : Bool} {cs : CS} {Q : QT} {G : GT} {pc : Nat} {L : LV} {x c : Nat} {sp : SP} {a0 a1 a2 a3 : Value} {r : List Value} {M : HM} {k n : Nat} (h : cs 2 x = some (4, c, sp)) : ex_i own nL rt ini cs Q G (.invokestatic x) pc L (a3 :: a2 :: a1 :: a0 :: r) M k n = (e_rm r ∧ e_rc M c [a0, a1, a2, a3] ∧ sp [a0, a1, a2, a3] M k n (fun v M' k' n' => G (pc + 3) L (v.toList ++ r) M' k' n')) := iv_4 h (f := fun s2 _ M' k' n' => G (pc + 3) L s2 M' k' n')
theorem xv2_5 {own nL rt : Nat} {ini : Bool} {cs : CS} {Q : QT} {G : GT} {pc : Nat} {L : LV} {x c : Nat} {sp : SP} {a0 a1 a2 a3 a4 : Value} {r : List Value} {M : HM} {k n : Nat} (h : cs 2 x = some (5, c, sp)) : ex_i own nL rt ini cs Q G (.invokestatic x) pc L (a4 :: a3 :: a2 :: a1 :: a0 :: r) M k n = (e_rm r ∧ e_rc M c [a0, a1, a2, a3, a4] ∧ sp [a0, a1, a2, a3, a4] M k n (fun v M' k' n' => G (pc + 3) L (v.toList ++ r) M' k' n')) := iv_5 h (f := fun s2 _ M' k' n' => G (pc + 3) L s2 M' k' n')
theorem xv2_6 {own nL rt : Nat} {ini : Bool} {cs : CS} {Q : QT} {G : GT} {pc : Nat} {L : LV} {x c : Nat} {sp : SP} {a0 a1 a2 a3 a4 a5 : Value} {r : List Value} {M : HM} {k n : Nat} (h : cs 2 x = some (6, c, sp)) : ex_i own nL rt ini cs Q G (.invokestatic x) pc L (a5 :: a4 :: a3 :: a2 :: a1 :: a0 :: r) M k n = (e_rm r ∧ e_rc M c [a0, a1, a2, a3, a4, a5] ∧ sp [a0, a1, a2, a3, a4, a5] M k n (fun v M' k' n' => G (pc + 3) L (v.toList ++ r) M' k' n')) := iv_6 h (f := fun s2 _ M' k' n' => G (pc + 3) L s2 M' k' n')
theorem xv2_7 {own nL rt : Nat} {ini : Bool} {cs : CS} {Q : QT} {G : GT} {pc : Nat} {L : LV} {x c : Nat} {sp : SP} {a0 a1 a2 a3 a4 a5 a6 : Value} {r : List Value} {M : HM} {k n : Nat} (h : cs 2 x = some (7, c, sp)) : ex_i own nL rt ini cs Q G (.invokestatic x) pc L (a6 :: a5 :: a4 :: a3 :: a2 :: a1 :: a0 :: r) M k n = (e_rm r ∧ e_rc M c [a0, a1, a2, a3, a4, a5, a6] ∧ sp [a0, a1, a2, a3, a4, a5, a6] M k n (fun v M' k' n' => G (pc + 3) L (v.toList ++ r) M' k' n')) := iv_7 h (f := fun s2 _ M' k' n' => G (pc + 3) L s2 M' k' n')
theorem xv2_8 {own nL rt : Nat} {ini : Bool} {cs : CS} {Q : QT} {G : GT} {pc : Nat} {L : LV} {x c : Nat} {sp : SP} {a0 a1 a2 a3 a4 a5 a6 a7 : Value} {r : List Value} {M : HM} {k n : Nat} (h : cs 2 x = some (8, c, sp)) : ex_i own nL rt ini cs Q G (.invokestatic x) pc L (a7 :: a6 :: a5 :: a4 :: a3 :: a2 :: a1 :: a0 :: r) M k n = (e_rm r ∧ e_rc M c [a0, a1, a2, a3, a4, a5, a6, a7] ∧ sp [a0, a1, a2, a3, a4, a5, a6, a7] M k n (fun v M' k' n' => G (pc + 3) L (v.toList ++ r) M' k' n')) := iv_8 h (f := fun s2 _ M' k' n' => G (pc + 3) L s2 M' k' n')
