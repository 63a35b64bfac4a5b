/-! lists read from arrays; rows of objects; late points; appending -/
def rdf {α : Type} (f : Nat → α) : Nat → Nat → List α
  | _, 0 => []
  | o, n + 1 => f o :: rdf f (o + 1) n
theorem rdf_len {α : Type} (f : Nat → α) : ∀ n o, (rdf f o n).length = n
  | 0, _ => rfl
  | n + 1, o => by rw [rdf, List.length_cons, rdf_len f n]
theorem rdf_get {α : Type} (f : Nat → α) : ∀ n o i, i < n → (rdf f o n)[i]? = some (f (o + i))
  | 0, _, _, h => by omega
  | n + 1, o, 0, _ => rfl
  | n + 1, o, i + 1, h => by
    rw [rdf, List.getElem?_cons_succ, rdf_get f n (o + 1) i (by omega)]
    congr 2; omega
theorem rdf_ext {α : Type} {f g : Nat → α} : ∀ n o o', (∀ i, i < n → g (o' + i) = f (o + i)) → rdf g o' n = rdf f o n
  | 0, _, _, _ => rfl
  | n + 1, o, o', h => by
    have h0 := h 0 (by omega)
    rw [Nat.add_zero, Nat.add_zero] at h0
    rw [rdf, rdf, h0, rdf_ext n (o + 1) (o' + 1) (fun i hi => by
      have := h (i + 1) (by omega)
      rw [show o' + 1 + i = o' + (i + 1) by omega, show o + 1 + i = o + (i + 1) by omega]; exact this)]
theorem rdf_app {α : Type} (f : Nat → α) : ∀ n m o, rdf f o (n + m) = rdf f o n ++ rdf f (o + n) m
  | 0, m, o => by rw [Nat.zero_add]; rfl
  | n + 1, m, o => by
    rw [show n + 1 + m = (n + m) + 1 by omega, rdf, rdf, rdf_app f n m (o + 1), List.cons_append, show o + 1 + n = o + (n + 1) by omega]
theorem rdf_snoc {α : Type} (f : Nat → α) (n o : Nat) : rdf f o (n + 1) = rdf f o n ++ [f (o + n)] := by
  rw [rdf_app]; rfl
/-- read against a list: by places -/
theorem rdf_eq {α : Type} {f : Nat → α} {o : Nat} {l : List α} (h : ∀ i x, l[i]? = some x → f (o + i) = x) : rdf f o l.length = l := by
  apply List.ext_getElem?
  intro i
  by_cases hi : i < l.length
  · rw [rdf_get _ _ _ _ hi, List.getElem?_eq_getElem hi, h i _ (List.getElem?_eq_getElem hi)]
  · rw [List.getElem?_eq_none (by rw [rdf_len]; omega), List.getElem?_eq_none (by omega)]
theorem rdf_at {α : Type} {f : Nat → α} {o n : Nat} {l : List α} (h : rdf f o n = l) {i : Nat} {x : α} (hx : l[i]? = some x) : f (o + i) = x := by
  have hi : i < n := by
    have := (List.getElem?_eq_some_iff.mp hx).1
    rw [← h, rdf_len] at this
    exact this
  rw [← h, rdf_get _ _ _ _ hi] at hx
  exact Option.some.inj hx
theorem rdf_at' {α : Type} {f : Nat → α} {o n : Nat} {l : List α} (h : rdf f o n = l) {i : Nat} (hi : i < n) : l[i]? = some (f (o + i)) := by
  rw [← h]; exact rdf_get _ _ _ _ hi
/-- how many of the first are below t -/
def lbl (t : Int32) : List PT → Nat
  | [] => 0
  | q :: l => if q.1 < t then lbl t l + 1 else 0
theorem lbl_le (t : Int32) : ∀ l, lbl t l ≤ l.length
  | [] => Nat.le_refl _
  | q :: l => by
    rw [lbl, List.length_cons]
    have := lbl_le t l
    split <;> omega
theorem lbl_ge (t : Int32) : ∀ l q, l[lbl t l]? = some q → ¬ q.1 < t
  | [], q, h => by cases h
  | p :: l, q, h => by
    rw [lbl] at h
    by_cases c : p.1 < t
    · rw [if_pos c, List.getElem?_cons_succ] at h
      exact lbl_ge t l q h
    · rw [if_neg c] at h
      cases h
      exact c
theorem lbl_lt (t : Int32) : ∀ (l : List PT) (q : PT), q ∈ l.take (lbl t l) → q.1 < t
  | [], q, h => by cases h
  | p :: l, q, h => by
    rw [lbl] at h
    by_cases c : p.1 < t
    · rw [if_pos c, List.take_succ_cons] at h
      rcases List.mem_cons.mp h with rfl | h
      · exact c
      · exact lbl_lt t l q h
    · rw [if_neg c] at h
      cases h
/-- a point comes in at its place, or for the one of its time -/
def insL (p : PT) : List PT → List PT
  | [] => [p]
  | q :: l => if q.1 < p.1 then q :: insL p l else if q.1 = p.1 then p :: l else p :: q :: l
theorem insL_set (p : PT) : ∀ l q, l[lbl p.1 l]? = some q → q.1 = p.1 → insL p l = l.set (lbl p.1 l) p
  | [], q, h, _ => by cases h
  | r :: l, q, h, e => by
    rw [lbl] at h ⊢
    rw [insL]
    by_cases c : r.1 < p.1
    · rw [if_pos c] at h ⊢
      rw [List.getElem?_cons_succ] at h
      rw [if_pos c, insL_set p l q h e, List.set_cons_succ]
    · rw [if_neg c] at h ⊢
      cases h
      rw [if_neg c, if_pos e, List.set_cons_zero]
theorem insL_ins (p : PT) : ∀ l, (∀ q, l[lbl p.1 l]? = some q → ¬ q.1 = p.1) → insL p l = l.take (lbl p.1 l) ++ p :: l.drop (lbl p.1 l)
  | [], _ => rfl
  | r :: l, h => by
    rw [lbl] at h ⊢
    rw [insL]
    by_cases c : r.1 < p.1
    · rw [if_pos c] at h ⊢
      rw [if_pos c, insL_ins p l (fun q hq => h q (by rw [List.getElem?_cons_succ]; exact hq)), List.take_succ_cons, List.drop_succ_cons, List.cons_append]
    · rw [if_neg c] at h ⊢
      have := h r rfl
      rw [if_neg c, if_neg this]; rfl
/-- a row of objects that stand for the members of a list; the rest are spare -/
def Row {α : Type} (g : Nat → Option Nat) (N : Nat) (P : Nat → Prop) (R : Nat → α → Prop) (l : List α) : Prop :=
  l.length ≤ N ∧ (∀ i a, i < N → g i = some a → P a) ∧ (∀ i x, l[i]? = some x → ∃ a, g i = some a ∧ R a x) ∧ ∀ i j a, i < N → j < N → g i = some a → g j = some a → i = j
theorem Row.mono {α : Type} {g : Nat → Option Nat} {N : Nat} {P P' : Nat → Prop} {R R' : Nat → α → Prop} {l : List α} (h : Row g N P R l) (hP : ∀ i a, i < N → g i = some a → P a → P' a) (hR : ∀ i a x, i < N → g i = some a → R a x → R' a x) : Row g N P' R' l := by
  obtain ⟨h1, h2, h3, h4⟩ := h
  refine ⟨h1, fun i a hi ha => hP i a hi ha (h2 i a hi ha), fun i x hx => ?_, h4⟩
  obtain ⟨a, ha, hr⟩ := h3 i x hx
  have hi : i < N := by
    have := (List.getElem?_eq_some_iff.mp hx).1
    omega
  exact ⟨a, ha, hR i a x hi ha hr⟩
/-- one member changes -/
theorem Row.upd {α : Type} {g : Nat → Option Nat} {N : Nat} {P P' : Nat → Prop} {R R' : Nat → α → Prop} {l : List α} {j b : Nat} {y : α} (h : Row g N P R l) (hj : g j = some b) (hjN : j < N) (hP : ∀ a, a ≠ b → P a → P' a) (hR : ∀ a x, a ≠ b → P a → R a x → R' a x) (hPb : P' b) (hRb : R' b y) : Row g N P' R' (l.set j y) := by
  obtain ⟨h1, h2, h3, h4⟩ := h
  refine ⟨by rw [List.length_set]; exact h1, fun i a hi ha => ?_, fun i x hx => ?_, h4⟩
  · by_cases c : a = b
    · rw [c]; exact hPb
    · exact hP a c (h2 i a hi ha)
  · rw [List.getElem?_set] at hx
    by_cases c : j = i
    · rw [if_pos c] at hx
      by_cases c2 : j < l.length
      · rw [if_pos c2] at hx
        cases hx
        rw [← c]
        exact ⟨b, hj, hRb⟩
      · rw [if_neg c2] at hx; cases hx
    · rw [if_neg c] at hx
      obtain ⟨a, ha, hr⟩ := h3 i x hx
      have hi : i < N := by
        have := (List.getElem?_eq_some_iff.mp hx).1
        omega
      exact ⟨a, ha, hR a x (fun e => c (h4 j i b hjN hi hj (by rw [ha, e]))) (h2 i a hi ha) hr⟩
/-- a member more, at the first spare place -/
theorem Row.push {α : Type} {g g' : Nat → Option Nat} {N : Nat} {P P' : Nat → Prop} {R R' : Nat → α → Prop} {l : List α} {b : Nat} {y : α} (h : Row g N P R l) (hl : l.length < N) (hg : ∀ i, i ≠ l.length → g' i = g i) (hb : g' l.length = some b) (hn : ∀ i, i < N → i ≠ l.length → g i ≠ some b) (hP : ∀ a, a ≠ b → P a → P' a) (hR : ∀ a x, a ≠ b → P a → R a x → R' a x) (hPb : P' b) (hRb : R' b y) : Row g' N P' R' (l ++ [y]) := by
  obtain ⟨h1, h2, h3, h4⟩ := h
  refine ⟨by rw [List.length_append]; exact hl, fun i a hi ha => ?_, fun i x hx => ?_, fun i j a hi hj ha hb2 => ?_⟩
  · by_cases c : i = l.length
    · rw [c, hb] at ha; cases ha; exact hPb
    · rw [hg i c] at ha
      exact hP a (fun e => hn i hi c (by rw [ha, e])) (h2 i a hi ha)
  · by_cases c : i < l.length
    · rw [List.getElem?_append_left c] at hx
      obtain ⟨a, ha, hr⟩ := h3 i x hx
      exact ⟨a, by rw [hg i (by omega)]; exact ha, hR a x (fun e => hn i (by omega) (by omega) (by rw [ha, e])) (h2 i a (by omega) ha) hr⟩
    · rw [List.getElem?_append_right (by omega)] at hx
      by_cases c2 : i = l.length
      · rw [c2, Nat.sub_self] at hx
        cases hx
        rw [c2]
        exact ⟨b, hb, hRb⟩
      · rw [List.getElem?_eq_none (by simp; omega)] at hx; cases hx
  · by_cases c : i = l.length <;> by_cases c2 : j = l.length
    · omega
    · rw [c, hb] at ha; cases ha
      rw [hg j c2] at hb2
      exact absurd hb2 (hn j hj c2)
    · rw [c2, hb] at hb2; cases hb2
      rw [hg i c] at ha
      exact absurd ha (hn i hi c)
    · rw [hg i c] at ha; rw [hg j c2] at hb2
      exact h4 i j a hi hj ha hb2
theorem Row.less {α : Type} {g : Nat → Option Nat} {N : Nat} {P : Nat → Prop} {R : Nat → α → Prop} {l : List α} (h : Row g N P R l) : Row g N P R [] :=
  ⟨Nat.zero_le _, h.2.1, fun i x hx => by simp at hx, h.2.2.2⟩
/-- the kept ones come to the front -/
def RowF {α : Type} (g : Nat → Option Nat) (N : Nat) (P : Nat → Prop) (R : Nat → α → Prop) (keep : α → Bool) (l : List α) (i : Nat) : Prop :=
  l.length ≤ N ∧ (∀ i a, i < N → g i = some a → P a) ∧ (∀ j x, ((l.take i).filter keep)[j]? = some x → ∃ a, g j = some a ∧ R a x) ∧ (∀ j x, i ≤ j → l[j]? = some x → ∃ a, g j = some a ∧ R a x) ∧ ∀ i j a, i < N → j < N → g i = some a → g j = some a → i = j
theorem Row.f0 {α : Type} {g : Nat → Option Nat} {N : Nat} {P : Nat → Prop} {R : Nat → α → Prop} {keep : α → Bool} {l : List α} (h : Row g N P R l) : RowF g N P R keep l 0 :=
  ⟨h.1, h.2.1, fun j x hx => by simp at hx, fun j x _ hx => h.2.2.1 j x hx, h.2.2.2⟩
theorem RowF.end_ {α : Type} {g : Nat → Option Nat} {N : Nat} {P : Nat → Prop} {R : Nat → α → Prop} {keep : α → Bool} {l : List α} (h : RowF g N P R keep l l.length) : Row g N P R (l.filter keep) := by
  obtain ⟨h1, h2, h3, -, h5⟩ := h
  rw [List.take_length] at h3
  exact ⟨Nat.le_trans (List.length_filter_le _ _) h1, h2, h3, h5⟩
theorem take_f {α : Type} {keep : α → Bool} {l : List α} {i : Nat} {x : α} (hx : l[i]? = some x) : (l.take (i + 1)).filter keep = (l.take i).filter keep ++ if keep x then [x] else [] := by
  rw [List.take_add_one, hx, List.filter_append]
  congr 1
  by_cases c : keep x = true
  · simp [c]
  · simp [c]
theorem RowF.no {α : Type} {g : Nat → Option Nat} {N : Nat} {P : Nat → Prop} {R : Nat → α → Prop} {keep : α → Bool} {l : List α} {i : Nat} {x : α} (h : RowF g N P R keep l i) (hx : l[i]? = some x) (hk : keep x = false) : RowF g N P R keep l (i + 1) := by
  obtain ⟨h1, h2, h3, h4, h5⟩ := h
  refine ⟨h1, h2, ?_, fun j y hj => h4 j y (by omega), h5⟩
  rw [take_f hx, hk]
  simpa using h3
theorem RowF.yes {α : Type} {g g' : Nat → Option Nat} {N : Nat} {P : Nat → Prop} {R : Nat → α → Prop} {keep : α → Bool} {l : List α} {i k : Nat} {x : α} (h : RowF g N P R keep l i) (hx : l[i]? = some x) (hk : keep x = true) (hkk : k = ((l.take i).filter keep).length) (hg : ∀ j, g' j = if j = k then g i else if j = i then g k else g j) : RowF g' N P R keep l (i + 1) := by
  obtain ⟨h1, h2, h3, h4, h5⟩ := h
  have hi : i < l.length := (List.getElem?_eq_some_iff.mp hx).1
  have hki : k ≤ i := by
    rw [hkk]
    refine Nat.le_trans (List.length_filter_le _ _) ?_
    rw [List.length_take]; omega
  refine ⟨h1, ?_, ?_, ?_, ?_⟩
  · intro j a hj ha
    rw [hg] at ha
    by_cases c : j = k
    · rw [if_pos c] at ha; exact h2 i a (by omega) ha
    · rw [if_neg c] at ha
      by_cases c2 : j = i
      · rw [if_pos c2] at ha; exact h2 k a (by omega) ha
      · rw [if_neg c2] at ha; exact h2 j a hj ha
  · intro j y hy
    rw [take_f hx, hk, if_pos rfl] at hy
    by_cases c : j < k
    · rw [List.getElem?_append_left (by omega)] at hy
      rw [hg, if_neg (show ¬ j = k by omega), if_neg (show ¬ j = i by omega)]
      exact h3 j y hy
    · rw [List.getElem?_append_right (by omega), ← hkk] at hy
      by_cases c2 : j = k
      · rw [c2, Nat.sub_self] at hy
        cases hy
        rw [hg, if_pos c2]
        exact h4 i x (Nat.le_refl _) hx
      · rw [List.getElem?_eq_none (by simp; omega)] at hy; cases hy
  · intro j y hj hy
    rw [hg, if_neg (show ¬ j = k by omega), if_neg (show ¬ j = i by omega)]
    exact h4 j y (by omega) hy
  · intro a b z ha hb hza hzb
    rw [hg] at hza hzb
    by_cases a1 : a = k <;> by_cases a2 : a = i <;> by_cases b1 : b = k <;> by_cases b2 : b = i <;> simp only [a1, a2, b1, b2, if_true, if_false] at hza hzb <;> first
      | omega
      | (have := h5 _ _ z (by omega) (by omega) hza hzb; omega)
      | (split at hza <;> split at hzb <;> first | omega | (have := h5 _ _ z (by omega) (by omega) hza hzb; omega))
      | (split at hza <;> first | omega | (have := h5 _ _ z (by omega) (by omega) hza hzb; omega))
      | (split at hzb <;> first | omega | (have := h5 _ _ z (by omega) (by omega) hza hzb; omega))
/-- spans and blocks -/
abbrev SPN : Type := Int32 × Int32 × Int32 × Int64 × Int64 × Int64 × Int64 × Int64
abbrev BLK : Type := List PT × (Nat → Int32)
def opb (bk : List BLK) : Bool := match bk.getLast? with
  | none => true
  | some x => !(decide (x.1.length < 16) && decide (tcnt x.2 226 = 0))
def apM (bk : List BLK) (p : PT) : List BLK := if opb bk then bk ++ [([p], zf)] else match bk.getLast? with
  | none => []
  | some x => bk.dropLast ++ [(x.1 ++ [p], x.2)]
def sEnd (sp : List SPN) : Int32 := match sp.getLast? with
  | none => 0
  | some x => x.2.1
def mpts (bk : List BLK) : List PT := (bk.map (fun x => x.1)).flatten
theorem nil_snoc {α : Type} (l : List α) : l = [] ∨ ∃ l' x, l = l' ++ [x] := by
  rcases List.eq_nil_or_concat l with h | ⟨l', x, h⟩
  · exact Or.inl h
  · exact Or.inr ⟨l', x, by rw [h, List.concat_eq_append]⟩
theorem opb_snoc (l : List BLK) (x : BLK) : opb (l ++ [x]) = !(decide (x.1.length < 16) && decide (tcnt x.2 226 = 0)) := by
  unfold opb; rw [List.getLast?_concat]
theorem apM_open {bk : List BLK} (p : PT) (h : opb bk = true) : apM bk p = bk ++ [([p], zf)] := by unfold apM; rw [if_pos h]
theorem apM_more {l : List BLK} {x : BLK} (p : PT) (h : ¬ opb (l ++ [x]) = true) : apM (l ++ [x]) p = l ++ [(x.1 ++ [p], x.2)] := by
  unfold apM; rw [if_neg h, List.getLast?_concat, List.dropLast_concat]
theorem mpts_app (a b : List BLK) : mpts (a ++ b) = mpts a ++ mpts b := by unfold mpts; rw [List.map_append, List.flatten_append]
theorem mpts_1 (x : BLK) : mpts [x] = x.1 := by unfold mpts; simp
theorem apM_pts (bk : List BLK) (p : PT) : mpts (apM bk p) = mpts bk ++ [p] := by
  by_cases h : opb bk = true
  · rw [apM_open p h, mpts_app, mpts_1]
  · rcases nil_snoc bk with rfl | ⟨l, x, rfl⟩
    · exact absurd rfl h
    · rw [apM_more p h, mpts_app, mpts_app, mpts_1, mpts_1, List.append_assoc]
theorem apM_len (bk : List BLK) (p : PT) : (apM bk p).length = bk.length + if opb bk then 1 else 0 := by
  by_cases h : opb bk = true
  · rw [apM_open p h, List.length_append, if_pos h]; rfl
  · rcases nil_snoc bk with rfl | ⟨l, x, rfl⟩
    · exact absurd rfl h
    · rw [apM_more p h, if_neg h, List.length_append, List.length_append]; rfl
def neB (bk : List BLK) : Prop := ∀ x, x ∈ bk → x.1 ≠ []
theorem neB_apM {bk : List BLK} (p : PT) (h : neB bk) : neB (apM bk p) := by
  by_cases ho : opb bk = true
  · rw [apM_open p ho]
    intro x hx
    rcases List.mem_append.mp hx with hx | hx
    · exact h x hx
    · rw [List.mem_singleton.mp hx]; exact fun e => by cases e
  · rcases nil_snoc bk with rfl | ⟨l, y, rfl⟩
    · exact absurd rfl ho
    · rw [apM_more p ho]
      intro x hx
      rcases List.mem_append.mp hx with hx | hx
      · exact h x (List.mem_append_left _ hx)
      · rw [List.mem_singleton.mp hx]; simp
theorem neB_len : ∀ {bk : List BLK}, neB bk → bk.length ≤ (mpts bk).length
  | [], _ => Nat.le_refl _
  | x :: bk, h => by
    have h1 := neB_len (bk := bk) (fun y hy => h y (List.mem_cons_of_mem _ hy))
    have h2 : x.1.length ≠ 0 := fun e => h x (List.mem_cons_self) (List.length_eq_zero_iff.mp e)
    have e : mpts (x :: bk) = x.1 ++ mpts bk := by unfold mpts; simp
    rw [e, List.length_append, List.length_cons]
    omega
def hasT (lt : List PT) (t : Int32) : Bool := match lt[lbl t lt]? with
  | some q => decide (q.1 = t)
  | none => false
def plL (lt : List PT) (p : PT) : Int32 × List PT := if hasT lt p.1 then (3, insL p lt) else if lt.length = 40 then (-5, lt) else (2, insL p lt)
def isLt (bk : List BLK) (t : Int32) : Bool := match bk.getLast? with
  | none => false
  | some x => decide (¬ eT (enc x.1) < t)
def plc (kd : Int32) (sp : List SPN) (bk : List BLK) (lt : List PT) (p : PT) : Int32 × List BLK × List PT :=
  if ¬ ((¬ p.1 < 0 ∧ ¬ 1000000000 < p.1) ∧ isVd kd p.2 = 1) then (-2, bk, lt)
  else if p.1 < sEnd sp then (0, bk, lt)
  else if isLt bk p.1 then ((plL lt p).1, bk, (plL lt p).2)
  else if 300 ≤ (mpts bk).length then (-5, bk, lt)
  else (1, apM bk p, lt)
/-- the place of a point that comes in -/
theorem get_ins {l : List PT} {k : Nat} {p : PT} (hk : k ≤ l.length) (i : Nat) : (l.take k ++ p :: l.drop k)[i]? = if i < k then l[i]? else if i = k then some p else l[i - 1]? := by
  by_cases c : i < k
  · rw [if_pos c, List.getElem?_append_left (by rw [List.length_take]; omega), List.getElem?_take, if_pos c]
  · rw [if_neg c, List.getElem?_append_right (by rw [List.length_take]; omega), List.length_take, Nat.min_eq_left hk]
    by_cases c2 : i = k
    · rw [if_pos c2, c2, Nat.sub_self]; rfl
    · rw [if_neg c2, show i - k = (i - k - 1) + 1 by omega, List.getElem?_cons_succ, List.getElem?_drop]
      congr 1; omega
