theorem e_ks : Int32.ofInt (-16) = (-16) ∧ Int32.ofInt (-8) = (-8) ∧ Int32.ofInt (-4) = (-4) ∧ Int32.ofInt (-2) = (-2) ∧ Int32.ofInt (-1) = (-1) ∧ Int32.ofInt 0 = 0 ∧ Int32.ofInt 1 = 1 ∧ Int32.ofInt 2 = 2 ∧ Int32.ofInt 3 = 3 ∧ Int32.ofInt 4 = 4 ∧ Int32.ofInt 5 = 5 ∧ Int32.ofInt 8 = 8 ∧ Int32.ofInt 9 = 9 ∧ Int32.ofInt 16 = 16 ∧ (Int8.ofInt (-5)).toInt32 = (-5) ∧ (Int8.ofInt (-4)).toInt32 = (-4) ∧ (Int8.ofInt (-2)).toInt32 = (-2) ∧ (Int8.ofInt 6).toInt32 = 6 ∧ (Int8.ofInt 7).toInt32 = 7 ∧ (Int8.ofInt 8).toInt32 = 8 ∧ (Int8.ofInt 9).toInt32 = 9 ∧ (Int8.ofInt 12).toInt32 = 12 ∧ (Int8.ofInt 15).toInt32 = 15 ∧ (Int8.ofInt 16).toInt32 = 16 ∧ (Int8.ofInt 31).toInt32 = 31 ∧ (Int8.ofInt 32).toInt32 = 32 ∧ (Int8.ofInt 40).toInt32 = 40 ∧ (Int8.ofInt 50).toInt32 = 50 ∧ (Int8.ofInt 60).toInt32 = 60 ∧ (Int8.ofInt 63).toInt32 = 63 ∧ (Int8.ofInt 64).toInt32 = 64 ∧ (Int8.ofInt 70).toInt32 = 70 ∧ (Int8.ofInt 96).toInt32 = 96 ∧ (Int16.ofInt 128).toInt32 = 128 ∧ (Int16.ofInt 226).toInt32 = 226 ∧ (Int16.ofInt 255).toInt32 = 255 ∧ (Int16.ofInt 256).toInt32 = 256 ∧ (Int16.ofInt 300).toInt32 = 300 ∧ (Int16.ofInt 320).toInt32 = 320 ∧ (Int16.ofInt 340).toInt32 = 340 ∧ (Int16.ofInt 350).toInt32 = 350 ∧ (Int16.ofInt 400).toInt32 = 400 ∧ (Int16.ofInt 560).toInt32 = 560 ∧ (Int16.ofInt 2560).toInt32 = 2560 ∧ Int64.ofNat (Fin.val (0 : Fin 2)) = 0 ∧ Int64.ofNat (Fin.val (1 : Fin 2)) = 1 ∧ Fin.val (0 : Fin 4) = 0 ∧ Fin.val (1 : Fin 4) = 1 ∧ Fin.val (2 : Fin 4) = 2 ∧ Fin.val (3 : Fin 4) = 3 := ⟨by decide +kernel, by decide +kernel, by decide +kernel, by decide +kernel, by decide +kernel, by decide +kernel, by decide +kernel, by decide +kernel, by decide +kernel, by decide +kernel, by decide +kernel, by decide +kernel, by decide +kernel, by decide +kernel, by decide +kernel, by decide +kernel, by decide +kernel, by decide +kernel, by decide +kernel, by decide +kernel, by decide +kernel, by decide +kernel, by decide +kernel, by decide +kernel, by decide +kernel, by decide +kernel, by decide +kernel, by decide +kernel, by decide +kernel, by decide +kernel, by decide +kernel, by decide +kernel, by decide +kernel, by decide +kernel, by decide +kernel, by decide +kernel, by decide +kernel, by decide +kernel, by decide +kernel, by decide +kernel, by decide +kernel, by decide +kernel, by decide +kernel, by decide +kernel, by decide +kernel, by decide +kernel, by decide +kernel, by decide +kernel, by decide +kernel, by decide +kernel⟩
theorem isI_i {x : Int32} : isI (.int x) = True := eq_true ⟨x, rfl⟩
theorem isL_l {x : Int64} : isL (.long x) = True := eq_true ⟨x, rfl⟩
theorem isR_r {x : Nat} : isR (.ref x) = True := eq_true (Or.inr ⟨x, rfl⟩)
theorem isR_n : isR .null = True := eq_true (Or.inl rfl)
theorem isR_q {x : Option Nat} : isR (va_rf x) = True := eq_true (by cases x; exact Or.inl rfl; exact Or.inr ⟨_, rfl⟩)
theorem rf_s {a : Nat} : va_rf (some a) = .ref a := rfl
theorem rf_n : va_rf none = .null := rfl
theorem ct_i {x : Int32} : (Value.int x).category = 1 := rfl
theorem ct_l {x : Int64} : (Value.long x).category = 2 := rfl
theorem ct_r {x : Nat} : (Value.ref x).category = 1 := rfl
theorem ct_n : Value.null.category = 1 := rfl
theorem ct_q {x : Option Nat} : (va_rf x).category = 1 := by cases x <;> rfl
theorem lk_c {i j : Nat} {v : Value} {L : LV} : List.lookup i ((j, v) :: L) = if i = j then some v else List.lookup i L := by
  rw [List.lookup_cons]
  by_cases h : i = j
  · simp [h]
  · simp [h]
theorem lk_k {i j : Nat} {v : List Nat} {L : List (Nat × List Nat)} : List.lookup i ((j, v) :: L) = if i = j then some v else List.lookup i L := by
  rw [List.lookup_cons]
  by_cases h : i = j
  · simp [h]
  · simp [h]
theorem k1_n {i : Nat} : e_k1 i [] = [] := rfl
theorem k1_c {i j : Nat} {v : Value} {L : LV} : e_k1 i ((j, v) :: L) = if j = i ∨ (j + 1 = i ∧ v.category = 2) then e_k1 i L else (j, v) :: e_k1 i L := by
  unfold e_k1
  rw [List.filter_cons]
  by_cases h : j = i
  · simp [h]
  · by_cases h2 : j + 1 = i
    · by_cases h3 : v.category = 2 <;> simp [h, h2, h3]
    · simp [h, h2]
theorem k2_n {i : Nat} : e_k2 i [] = [] := rfl
theorem k2_c {i j : Nat} {v : Value} {L : LV} : e_k2 i ((j, v) :: L) = if j = i ∨ j = i + 1 ∨ (j + 1 = i ∧ v.category = 2) then e_k2 i L else (j, v) :: e_k2 i L := by
  unfold e_k2
  rw [List.filter_cons]
  by_cases h : j = i
  · simp [h]
  · by_cases h4 : j = i + 1
    · simp [h4]
    · by_cases h2 : j + 1 = i
      · by_cases h3 : v.category = 2 <;> simp [h, h2, h3, h4]
      · simp [h, h2, h4]
theorem ar_n {i : Nat} : lv_args i [] = [] := rfl
theorem ar_c {i : Nat} {v : Value} {vs : List Value} : lv_args i (v :: vs) = (i, v) :: lv_args (if v.category = 2 then i + 2 else i + 1) vs := rfl
theorem pk_n {L : LV} : e_pk [] L = [] := rfl
theorem pk_c {j : Nat} {ks : List Nat} {L : LV} : e_pk (j :: ks) L = match L.lookup j with
  | some v => (j, v) :: e_pk ks L
  | none => e_pk ks L := by
  unfold e_pk
  rw [List.filterMap_cons]
  cases L.lookup j <;> rfl
