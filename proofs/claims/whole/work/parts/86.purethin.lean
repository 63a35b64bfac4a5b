/-! thinning alike -/
theorem nn_of {x : Int32} (h : 0 ≤ x.toInt) : ∃ j, j < 2 ^ 31 ∧ x = nI j := nI_of (by
  rw [Int32.lt_iff_toInt_lt, show (0 : Int32).toInt = 0 from rfl]; omega)
theorem w_of {w : Int32} (h1 : ¬ w < 1) (h2 : ¬ 1000000 < w) : ∃ W, w = nI W ∧ 1 ≤ W ∧ W ≤ 1000000 := by
  rw [Int32.lt_iff_toInt_lt, show (1 : Int32).toInt = 1 from rfl] at h1
  rw [Int32.lt_iff_toInt_lt, show (1000000 : Int32).toInt = 1000000 from rfl] at h2
  obtain ⟨W, hW, rfl⟩ := nn_of (x := w) (by omega)
  rw [nI_toInt hW] at h1 h2
  exact ⟨W, rfl, by omega, by omega⟩
theorem st_key {p q w : Int32} (h1 : ¬ w < 1) (h2 : ¬ 1000000 < w) (hp : 0 ≤ p.toInt) (hpq : p < q) (hq : q.toInt ≤ 1000000000) : (q < p / w * w + w) ↔ q / w = p / w := by
  obtain ⟨W, rfl, w1, w2⟩ := w_of h1 h2
  have hpq' := hpq
  rw [Int32.lt_iff_toInt_lt] at hpq'
  obtain ⟨P, hP, rfl⟩ := nn_of hp
  obtain ⟨Q, hQ, rfl⟩ := nn_of (x := q) (by omega)
  rw [nI_toInt hP, nI_toInt hQ] at hpq'
  rw [nI_toInt hQ] at hq
  have hd := Nat.div_mul_le_self P W
  have hd2 := Nat.div_le_self P W
  have hd3 := Nat.div_le_self Q W
  rw [pk_div hP w1 (by omega), pk_div hQ w1 (by omega), nI_mul, nI_add, nI_ltI hQ (by omega), nI_eq (by omega) (by omega)]
  have hm : P / W ≤ Q / W := Nat.div_le_div_right (by omega)
  constructor
  · intro h
    have : Q / W < P / W + 1 := (Nat.div_lt_iff_lt_mul w1).mpr (by rw [Nat.succ_mul]; exact h)
    omega
  · intro h
    have e1 := Nat.div_add_mod Q W
    have e2 := Nat.mod_lt Q w1
    rw [h, Nat.mul_comm] at e1
    omega
theorem st_end {p w : Int32} (h1 : ¬ w < 1) (h2 : ¬ 1000000 < w) (hp : 0 ≤ p.toInt) (hq : p.toInt ≤ 1000000000) : p < p / w * w + w := by
  obtain ⟨W, rfl, w1, w2⟩ := w_of h1 h2
  obtain ⟨P, hP, rfl⟩ := nn_of hp
  rw [nI_toInt hP] at hq
  have hd := Nat.div_mul_le_self P W
  rw [pk_div hP w1 (by omega), nI_mul, nI_add, nI_ltI hP (by omega)]
  have e1 := Nat.div_add_mod P W
  have e2 := Nat.mod_lt P w1
  rw [Nat.mul_comm] at e1
  omega
theorem st_top {p t w : Int32} (h1 : ¬ w < 1) (h2 : ¬ 1000000 < w) (hp : 0 ≤ p.toInt) (ht : t.toInt ≤ 1000000000) (hpt : p < t) (hm : t - t / w * w = 0) : ¬ t < p / w * w + w := by
  obtain ⟨W, rfl, w1, w2⟩ := w_of h1 h2
  have hpt' := hpt
  rw [Int32.lt_iff_toInt_lt] at hpt'
  obtain ⟨P, hP, rfl⟩ := nn_of hp
  obtain ⟨T, hT, rfl⟩ := nn_of (x := t) (by omega)
  rw [nI_toInt hP, nI_toInt hT] at hpt'
  rw [nI_toInt hT] at ht
  have hd := Nat.div_mul_le_self P W
  have hd2 := Nat.div_mul_le_self T W
  rw [pk_div hT w1 (by omega), nI_mul, nI_sub hd2, show (0 : Int32) = nI 0 from rfl, nI_eq (by omega) (by omega)] at hm
  rw [pk_div hP w1 (by omega), nI_mul, nI_add, nI_ltI hT (by omega)]
  have h3 : P / W < T / W := (Nat.div_lt_iff_lt_mul w1).mpr (by omega)
  have h4 : (P / W + 1) * W ≤ T / W * W := Nat.mul_le_mul_right W h3
  rw [Nat.succ_mul] at h4
  omega
theorem ads_sn (w : Int32) (n : List SPN) (x : SPN) (p : PT) : adS w (n ++ [x]) p = if p.1 < x.2.1 then n ++ [tkS x p.2] else n ++ [x] ++ [nwS w p] := by
  unfold adS
  rw [List.getLast?_concat, List.dropLast_concat]
theorem adS_new {w : Int32} {sp : List SPN} {p : PT} (h : ¬ p.1 < sEnd sp) : adS w sp p = sp ++ [nwS w p] := by
  rcases nil_snoc sp with rfl | ⟨n, x, rfl⟩
  · rfl
  · have : sEnd (n ++ [x]) = x.2.1 := by unfold sEnd; rw [List.getLast?_concat]
    rw [this] at h
    rw [ads_sn, if_neg h]
theorem adS_app {w : Int32} {sp : List SPN} : ∀ (l : List PT) (n : List SPN) (x : SPN), l.foldl (adS w) (sp ++ (n ++ [x])) = sp ++ l.foldl (adS w) (n ++ [x])
  | [], _, _ => rfl
  | p :: l, n, x => by
    rw [List.foldl_cons, List.foldl_cons, ← List.append_assoc, ads_sn, ads_sn]
    by_cases c : p.1 < x.2.1
    · rw [if_pos c, if_pos c, List.append_assoc, adS_app l n]
    · rw [if_neg c, if_neg c, List.append_assoc sp n, List.append_assoc sp, adS_app l (n ++ [x])]
theorem mTh_app {w : Int32} {sp : List SPN} : ∀ (l : List PT) (o : Option Int32) (n : List SPN) (x : SPN), mTh w o (sp ++ (n ++ [x])) l = sp ++ mTh w o (n ++ [x]) l
  | [], _, _, _ => rfl
  | p :: l, o, n, x => by
    rw [mTh, mTh]
    by_cases c : decide (o ≠ some (p.1 / w)) = true
    · rw [c, mAd_y, mAd_y, List.append_assoc sp, mTh_app l _ (n ++ [x])]
    · rw [Bool.not_eq_true] at c
      rw [c, ← List.append_assoc, mAd_n, mAd_n, List.append_assoc, mTh_app l _ n]
theorem th_eq {w : Int32} (h1 : ¬ w < 1) (h2 : ¬ 1000000 < w) : ∀ (l : List PT) (p : PT) (n : List SPN) (x : SPN), srt (p :: l) → (∀ q, q ∈ p :: l → 0 ≤ q.1.toInt ∧ q.1.toInt ≤ 1000000000) → x.2.1 = p.1 / w * w + w → l.foldl (adS w) (n ++ [x]) = mTh w (some (p.1 / w)) (n ++ [x]) l
  | [], _, _, _, _, _, _ => rfl
  | q :: l, p, n, x, hs, ht, hx => by
    have hs' := srt_cons.mp hs
    have hpq := hs'.1 q List.mem_cons_self
    have hk := st_key h1 h2 (ht p List.mem_cons_self).1 hpq (ht q (List.mem_cons_of_mem _ List.mem_cons_self)).2
    have ht' : ∀ r, r ∈ q :: l → 0 ≤ r.1.toInt ∧ r.1.toInt ≤ 1000000000 := fun r hr => ht r (List.mem_cons_of_mem _ hr)
    rw [List.foldl_cons, ads_sn, mTh, hx]
    by_cases c : q.1 / w = p.1 / w
    · rw [if_pos (hk.mpr c), show decide (some (p.1 / w) ≠ some (q.1 / w)) = false by simp [c], mAd_n]
      exact th_eq h1 h2 l q n (tkS x q.2) hs'.2 ht' (by show x.2.1 = _; rw [hx, c])
    · rw [if_neg (fun z => c (hk.mp z)), show decide (some (p.1 / w) ≠ some (q.1 / w)) = true by
        rw [decide_eq_true_iff]; exact fun z => c (Option.some.inj z).symm, mAd_y]
      exact th_eq h1 h2 l q (n ++ [x]) (nwS w q) hs'.2 ht' rfl
theorem th_all {w : Int32} (h1 : ¬ w < 1) (h2 : ¬ 1000000 < w) {l : List PT} {sp : List SPN} (hs : srt l) (ht : ∀ q, q ∈ l → 0 ≤ q.1.toInt ∧ q.1.toInt ≤ 1000000000) (he : ∀ q, q ∈ l → ¬ q.1 < sEnd sp) : l.foldl (adS w) sp = mTh w none sp l := by
  cases l with
  | nil => rfl
  | cons p l =>
    rw [List.foldl_cons, adS_new (he p List.mem_cons_self), mTh, show decide ((none : Option Int32) ≠ some (p.1 / w)) = true by simp, mAd_y]
    exact th_eq h1 h2 l p sp (nwS w p) hs ht rfl
theorem szOK_fold {w : Int32} : ∀ (l : List PT) (B : Nat) (n : List SPN), szOK B n → szOK (B + l.length) (l.foldl (adS w) n)
  | [], B, n, h => h
  | p :: l, B, n, h => by
    have := szOK_fold (w := w) l (B + 1) _ (szOK.ad w p h)
    rw [List.foldl_cons, List.length_cons, show B + (l.length + 1) = B + 1 + l.length by omega]
    exact this
theorem szOK_th {w : Int32} {l : List PT} {sp : List SPN} (h : szOK 400 sp) (hl : l.length ≤ 300) (he : ∀ q, q ∈ l → ¬ q.1 < sEnd sp) : szOK 400 (l.foldl (adS w) sp) := by
  cases l with
  | nil => exact h
  | cons p l =>
    rw [List.foldl_cons, adS_new (he p List.mem_cons_self)]
    have e := adS_app (w := w) (sp := sp) l [] (nwS w p)
    rw [List.nil_append] at e
    rw [e]
    have h1 : szOK 1 [nwS w p] := fun x hx => by
      rw [List.mem_singleton.mp hx]
      exact ⟨1, rfl, by omega, by omega⟩
    have h2 := szOK_fold (w := w) l 1 _ h1
    rw [List.length_cons] at hl
    intro x hx
    rcases List.mem_append.mp hx with f | f
    · exact h x f
    · obtain ⟨m, a1, a2, a3⟩ := h2 x f
      exact ⟨m, a1, a2, by omega⟩
def rsE (l : List SPN) : Prop := l.Pairwise (fun x y => x.2.1 < y.2.1)
theorem rsE_snoc {n : List SPN} {x : SPN} : rsE (n ++ [x]) ↔ rsE n ∧ ∀ y, y ∈ n → y.2.1 < x.2.1 := by
  unfold rsE
  rw [List.pairwise_append]
  constructor
  · rintro ⟨a, -, c⟩; exact ⟨a, fun y hy => c y hy x List.mem_cons_self⟩
  · rintro ⟨a, c⟩
    exact ⟨a, List.pairwise_cons.mpr ⟨fun _ h => (by cases h), List.Pairwise.nil⟩, fun y hy z hz => by rw [List.mem_singleton.mp hz]; exact c y hy⟩
theorem rsE_ad {w : Int32} (h1 : ¬ w < 1) (h2 : ¬ 1000000 < w) {n : List SPN} {p : PT} (hp : 0 ≤ p.1.toInt ∧ p.1.toInt ≤ 1000000000) (h : rsE n) : rsE (adS w n p) := by
  rcases nil_snoc n with rfl | ⟨n, x, rfl⟩
  · exact List.pairwise_cons.mpr ⟨fun _ h => (by cases h), List.Pairwise.nil⟩
  · rw [ads_sn]
    have h' := rsE_snoc.mp h
    by_cases c : p.1 < x.2.1
    · rw [if_pos c]
      exact rsE_snoc.mpr ⟨h'.1, h'.2⟩
    · rw [if_neg c]
      have hx : x.2.1 < (nwS w p).2.1 := i32_nln c (st_end h1 h2 hp.1 hp.2)
      refine rsE_snoc.mpr ⟨h, fun y hy => ?_⟩
      rcases List.mem_append.mp hy with f | f
      · exact Int32.lt_trans (h'.2 y f) hx
      · rw [List.mem_singleton.mp f]; exact hx
theorem rsE_fold {w : Int32} (h1 : ¬ w < 1) (h2 : ¬ 1000000 < w) : ∀ {l : List PT} {n : List SPN}, (∀ q, q ∈ l → 0 ≤ q.1.toInt ∧ q.1.toInt ≤ 1000000000) → rsE n → rsE (l.foldl (adS w) n)
  | [], _, _, h => h
  | p :: l, n, ht, h => by
    rw [List.foldl_cons]
    exact rsE_fold h1 h2 (fun q hq => ht q (List.mem_cons_of_mem _ hq)) (rsE_ad h1 h2 (ht p List.mem_cons_self) h)
theorem end_fold {w t : Int32} (h1 : ¬ w < 1) (h2 : ¬ 1000000 < w) (ht : t.toInt ≤ 1000000000) (hm : t - t / w * w = 0) : ∀ {l : List PT} {n : List SPN}, (∀ q, q ∈ l → 0 ≤ q.1.toInt ∧ q.1 < t) → ¬ t < sEnd n → ¬ t < sEnd (l.foldl (adS w) n)
  | [], _, _, h => h
  | p :: l, n, hp, h => by
    rw [List.foldl_cons]
    refine end_fold h1 h2 ht hm (fun q hq => hp q (List.mem_cons_of_mem _ hq)) ?_
    have hpp := hp p List.mem_cons_self
    have hn : ¬ t < sEnd (n ++ [nwS w p]) := by
      have : sEnd (n ++ [nwS w p]) = p.1 / w * w + w := by unfold sEnd; rw [List.getLast?_concat]; rfl
      rw [this]
      exact st_top h1 h2 hpp.1 ht hpp.2 hm
    rcases nil_snoc n with e | ⟨n0, x, e⟩
    · subst e; exact hn
    · subst e
      rw [ads_sn]
      by_cases c : p.1 < x.2.1
      · rw [if_pos c]
        have e1 : sEnd (n0 ++ [tkS x p.2]) = x.2.1 := by unfold sEnd; rw [List.getLast?_concat]; rfl
        have e2 : sEnd (n0 ++ [x]) = x.2.1 := by unfold sEnd; rw [List.getLast?_concat]
        rw [e1, ← e2]; exact h
      · rw [if_neg c]; exact hn
def spV (l : List SPN) : Prop := ∀ x, x ∈ l → vOK x.2.2.2.2.1 ∧ vOK x.2.2.2.2.2.1
theorem spV_fold {w : Int32} : ∀ {l : List PT} {n : List SPN}, (∀ q, q ∈ l → vOK q.2) → spV n → spV (l.foldl (adS w) n)
  | [], _, _, h => h
  | p :: l, n, hp, h => by
    rw [List.foldl_cons]
    refine spV_fold (fun q hq => hp q (List.mem_cons_of_mem _ hq)) ?_
    have hv := hp p List.mem_cons_self
    have hn : spV (n ++ [nwS w p]) := fun x hx => by
      rcases List.mem_append.mp hx with f | f
      · exact h x f
      · rw [List.mem_singleton.mp f]; exact ⟨hv, hv⟩
    rcases nil_snoc n with e | ⟨n0, y, e⟩
    · subst e; exact hn
    · subst e
      rw [ads_sn]
      by_cases c : p.1 < y.2.1
      · rw [if_pos c]
        intro x hx
        rcases List.mem_append.mp hx with f | f
        · exact h x (List.mem_append_left _ f)
        · have hy := h y (by simp)
          rw [List.mem_singleton.mp f]
          refine ⟨?_, ?_⟩
          · show vOK (if p.2 < y.2.2.2.2.1 then p.2 else y.2.2.2.2.1)
            split
            · exact hv
            · exact hy.1
          · show vOK (if p.2 < y.2.2.2.2.2.1 then y.2.2.2.2.2.1 else p.2)
            split
            · exact hy.2
            · exact hv
      · rw [if_neg c]; exact hn
