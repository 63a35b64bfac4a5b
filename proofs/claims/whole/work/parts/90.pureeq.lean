/-! class and reference answer alike over series in order -/
def WL (L : List SER) : Prop := ∀ S, S ∈ L → WSr S
theorem ser_in {L : List SER} {i : Int32} {S : SER} (h : ser L i = some S) : S ∈ L := by
  unfold ser at h
  split at h
  · cases h
  · exact List.mem_of_getElem? h
theorem WL.st0 {L : List SER} (h : WL L) {i : Nat} {S : SER} (hS : WSr S) : WL (L.set i S) := fun T hT => by
  rcases List.mem_or_eq_of_mem_set hT with f | f
  · exact h T f
  · rw [f]; exact hS
theorem WL.w1 {L : List SER} (h : WL L) : wf1 L := fun S hS => ⟨(h S hS).1, (h S hS).2.1.1, (h S hS).2.2.2.2.2.1⟩
theorem WL.wt {L : List SER} (h : WL L) : wft L := fun S hS p hp => ((h S hS).2.1.2.2 p hp).1
theorem WL.sz {L : List SER} (h : WL L) : ∀ S, S ∈ L → szOK 400 S.2.2.1 := fun S hS => (h S hS).2.2.2.2.2.1
theorem WL.nb {L : List SER} (h : WL L) : ∀ S, S ∈ L → neB S.2.2.2.1 := fun S hS => (h S hS).1
theorem tkl_ok {S : SER} (h : WSr S) : tkl S = mgR (mpts (unt S.2.2.2.1)) S.2.2.2.2 ∧ srt (tkl S) ∧ ∀ p, p ∈ tkl S → PO (sEnd S.2.2.1) p := by
  obtain ⟨h0, ⟨a1, a2, a3⟩, ⟨b1, b2, b3⟩, h4⟩ := h
  have hu : srt (mpts (unt S.2.2.2.1)) := mpts_srt _ a2
  have e : tkl S = mgR (mpts (unt S.2.2.2.1)) S.2.2.2.2 := takA_mg _ _
  refine ⟨e, ?_, ?_⟩
  · rw [e]; exact mgR_srt hu b2
  · rw [e]
    refine mg_PO hu b2 (fun p hp => ?_) b3
    obtain ⟨x, hx, hp⟩ := mpts_mem.mp hp
    exact a3 p (mpts_mem.mpr ⟨x, (unt_mem.mp hx).1, hp⟩)
theorem WL.nv {L : List SER} (h : WL L) : ∀ S, S ∈ L → nvS S := fun S hS => ⟨fun x hx => ⟨vOK_no ((h S hS).2.2.2.2.2.2 x hx).1, vOK_no ((h S hS).2.2.2.2.2.2 x hx).2⟩, fun p hp => vOK_no ((tkl_ok (h S hS)).2.2 p hp).2.1⟩
theorem ask0 {S : SER} (h : WSr S) (a b : Int32) : askC S a b q0 = askM S a b q0 := by
  rw [ask_eq h.1 h.2.1.2.1 h.2.2.1.2.1, qadd_z]
theorem lk0 (S : SER) (a b : Int32) : mLk 0 S a b = lookS S a b := rfl
theorem lk1 (S : SER) (a b : Int32) : mLk 1 S a b = lookP S a a b := rfl
theorem lk2 (S : SER) (a b : Int32) : mLk 2 S a b = lookP S 0 a b := rfl
theorem win0 {S : SER} (h : WSr S) (a b : Int32) : gth S.2.2.2.2 a b (mpts (S.2.2.2.1.filter (unr a b))) = (tkl S).filter (wn a b) := by
  rw [win_eq a b h.2.1.2.1 h.2.2.1.2.1, (tkl_ok h).1]
theorem cnt_eq {L : List SER} (h : WL L) (z : Nat × Nat × Nat) (i a b : Int32) : mCount L z i a b = aCount L z i a b := by
  unfold mCount aCount
  cases hs : ser L i with
  | none => rfl
  | some S =>
    dsimp only
    rw [ask0 (h S (ser_in hs)), lk0]
theorem sum_eq {L : List SER} (h : WL L) (z : Nat × Nat × Nat) (i a b : Int32) : mSum L z i a b = aSum L z i a b := by
  unfold mSum aSum
  cases hs : ser L i with
  | none => rfl
  | some S =>
    dsimp only
    rw [ask0 (h S (ser_in hs)), lk0]
theorem lst_eq {L : List SER} (h : WL L) (z : Nat × Nat × Nat) (i a b ms : Int32) : mLeast L z i a b ms = aLeast L z i a b ms := by
  unfold mLeast aLeast
  cases hs : ser L i with
  | none => rfl
  | some S =>
    dsimp only
    rw [ask0 (h S (ser_in hs)), lk0]
theorem ris_eq {L : List SER} (h : WL L) (z : Nat × Nat × Nat) (i a b : Int32) : mRise L z i a b = aRise L z i a b := by
  unfold mRise aRise
  cases hs : ser L i with
  | none => rfl
  | some S =>
    have hS := h S (ser_in hs)
    obtain ⟨-, t2, t3⟩ := tkl_ok hS
    dsimp only
    rw [win0 hS, rsW_eq t2 (fun q hq => (t3 q hq).2.1), lk1]
theorem lev_eq {L : List SER} (h : WL L) (z : Nat × Nat × Nat) (i a b : Int32) (v : Int64) : mLevel L z i a b v = aLevel L z i a b v := by
  unfold mLevel aLevel
  cases hs : ser L i with
  | none => rfl
  | some S =>
    have hS := h S (ser_in hs)
    obtain ⟨-, t2, t3⟩ := tkl_ok hS
    dsimp only
    rw [win0 hS, lvW_eq t2 (fun q hq => by
      have := (t3 q hq).1.1
      rw [Int32.lt_iff_toInt_lt, show (0 : Int32).toInt = 0 from rfl]; omega), lk2]
theorem val_eq {L : List SER} (h : WL L) (z : Nat × Nat × Nat) (i a b ms : Int32) : mValue L z i a b ms = aValue L z i a b ms := by
  unfold mValue aValue
  cases hs : ser L i with
  | none => rfl
  | some S =>
    have hS := h S (ser_in hs)
    obtain ⟨-, t2, t3⟩ := tkl_ok hS
    dsimp only
    rw [win0 hS, vlW_eq (fun q hq => vOK_no (t3 q hq).2.1), lk1]
theorem gr_le {S : SER} (h : WSr S) (a b : Int32) : (askM S a b q0).1 ≤ 24700 := by
  have := askC_le h.2.2.2.2.2.1 h.2.2.2.1 h.2.1.1 h.2.2.1.1 a b q0
  rw [ask0 h] at this
  have e : (q0 : QV).1 = 0 := rfl
  omega
theorem gr_n {key v a b : Int32} : ∀ (L : List SER) (u : QV), WL L → u.1 + 24700 * L.length < 2 ^ 31 → L.foldl (grN key v a b 0) (nI u.1).toInt64 = (nI (L.foldl (grU key v a b) u).1).toInt64
  | [], _, _, _ => rfl
  | S :: L, u, h, hb => by
    have hS := h S List.mem_cons_self
    have hle := gr_le hS a b
    rw [List.length_cons] at hb
    rw [List.foldl_cons, List.foldl_cons]
    by_cases c : bear S key v = true
    · have e1 : grU key v a b u S = qadd u (askM S a b q0) := by
        unfold grU; rw [if_pos c, ask_eq hS.1 hS.2.1.2.1 hS.2.2.1.2.1]
      have e2 : grN key v a b 0 (nI u.1).toInt64 S = (nI (qadd u (askM S a b q0)).1).toInt64 := by
        unfold grN
        rw [if_pos c, if_pos rfl]
        show (nI u.1).toInt64 + (nI (askM S a b q0).1).toInt64 = (nI (u.1 + (askM S a b q0).1)).toInt64
        rw [← nI_add]
        have i1 := nI_toInt (n := u.1) (by omega)
        have i2 := nI_toInt (n := (askM S a b q0).1) (by omega)
        exact l_add (by omega) (by omega)
      rw [e1, e2]
      exact gr_n L _ (fun T hT => h T (List.mem_cons_of_mem _ hT)) (by show u.1 + (askM S a b q0).1 + _ < _; omega)
    · have e1 : grU key v a b u S = u := by unfold grU; rw [if_neg c]
      have e2 : grN key v a b 0 (nI u.1).toInt64 S = (nI u.1).toInt64 := by unfold grN; rw [if_neg c]
      rw [e1, e2]
      exact gr_n L u (fun T hT => h T (List.mem_cons_of_mem _ hT)) (by omega)
theorem gr_s {key v a b w : Int32} (hw : ¬ w = 0) : ∀ (L : List SER) (u : QV), WL L → L.foldl (grN key v a b w) u.2.1 = (L.foldl (grU key v a b) u).2.1
  | [], _, _ => rfl
  | S :: L, u, h => by
    have hS := h S List.mem_cons_self
    rw [List.foldl_cons, List.foldl_cons]
    by_cases c : bear S key v = true
    · have e1 : grU key v a b u S = qadd u (askM S a b q0) := by
        unfold grU; rw [if_pos c, ask_eq hS.1 hS.2.1.2.1 hS.2.2.1.2.1]
      have e2 : grN key v a b w u.2.1 S = (qadd u (askM S a b q0)).2.1 := by
        unfold grN
        rw [if_pos c, if_neg hw]; rfl
      rw [e1, e2]
      exact gr_s hw L _ (fun T hT => h T (List.mem_cons_of_mem _ hT))
    · have e1 : grU key v a b u S = u := by unfold grU; rw [if_neg c]
      have e2 : grN key v a b w u.2.1 S = u.2.1 := by unfold grN; rw [if_neg c]
      rw [e1, e2]
      exact gr_s hw L u (fun T hT => h T (List.mem_cons_of_mem _ hT))
theorem grp_eq {L : List SER} (h : WL L) (h8 : L.length ≤ 8) (z : Nat × Nat × Nat) (key v a b w : Int32) : mGroup L z key v a b w = aGroup L z key v a b w := by
  unfold mGroup aGroup
  have e : grY key v a b = grZ key v a b := by
    funext y S
    unfold grY grZ
    rw [lk0]
  rw [e]
  have e2 : L.foldl (grN key v a b w) 0 = if w = 0 then (nI (L.foldl (grU key v a b) q0).1).toInt64 else (L.foldl (grU key v a b) q0).2.1 := by
    by_cases c : w = 0
    · rw [if_pos c, c]
      exact gr_n L q0 h (by show 0 + _ < _; omega)
    · rw [if_neg c]
      exact gr_s c L q0 h
  rw [e2]
theorem mrg_len {S : SER} (h : WSr S) : mMg S = mgR (mpts S.2.2.2.1) S.2.2.2.2 ∧ (mMg S).length = mN7 S ∧ cnt (fun p => hasT S.2.2.2.2 p.1) (mpts S.2.2.2.1) ≤ (mpts S.2.2.2.1).length + S.2.2.2.2.length := by
  have a2 := h.2.1.2.1
  have b2 := h.2.2.1.2.1
  have e : mMg S = mgR (mpts S.2.2.2.1) S.2.2.2.2 := insF_mg a2 b2
  have hl := mgR_len a2 b2
  have hc : cnt (fun p => hasT S.2.2.2.2 p.1) (mpts S.2.2.2.1) ≤ (mpts S.2.2.2.1).length := List.length_filter_le _ _
  refine ⟨e, ?_, by omega⟩
  rw [e]
  unfold mN7
  omega
theorem mrg_eq {L : List SER} (h : WL L) (i : Int32) : mMerge L i = aMerge L i := by
  unfold mMerge aMerge
  cases hs : ser L i with
  | none => rfl
  | some S =>
    have hS := h S (ser_in hs)
    obtain ⟨m1, m2, -⟩ := mrg_len hS
    dsimp only
    by_cases c : 0 < tornN S.2.2.2.1
    · rw [if_pos c, if_pos c]
    · rw [if_neg c, if_neg c, mgA_eq hS (by omega), ← m1, m2]
theorem st_ky2 {p q w : Int32} (h1 : ¬ w < 1) (hp : 0 ≤ p.toInt) (hpq : p < q) (hq : q.toInt ≤ 1000000000) : (q < p / w * w + w) ↔ q / w = p / w := by
  have h1' := h1
  rw [Int32.lt_iff_toInt_lt, show (1 : Int32).toInt = 1 from rfl] at h1'
  obtain ⟨W, hW, rfl⟩ := nn_of (x := w) (by omega)
  rw [nI_toInt hW] at h1'
  have w1 : 0 < W := by omega
  have hpq' := hpq
  rw [Int32.lt_iff_toInt_lt] at hpq'
  obtain ⟨P, hP, rfl⟩ := nn_of hp
  obtain ⟨Q, hQ, rfl⟩ := nn_of (x := q) (by omega)
  rw [nI_toInt hP, nI_toInt hQ] at hpq'
  rw [nI_toInt hQ] at hq
  have hd := Nat.div_mul_le_self P W
  have hd2 := Nat.div_le_self P W
  have hd3 := Nat.div_le_self Q W
  have hbig : P / W * W + W < 2 ^ 31 := by
    by_cases c : P < W
    · rw [Nat.div_eq_of_lt c]; omega
    · omega
  rw [pk_div hP w1 hW, pk_div hQ w1 hW, nI_mul, nI_add, nI_ltI hQ hbig, nI_eq (by omega) (by omega)]
  have hm : P / W ≤ Q / W := Nat.div_le_div_right (by omega)
  constructor
  · intro h
    have : Q / W < P / W + 1 := (Nat.div_lt_iff_lt_mul w1).mpr (by rw [Nat.succ_mul]; exact h)
    omega
  · intro h
    have e1 := Nat.div_add_mod Q W
    have e2 := Nat.mod_lt Q w1
    rw [h, Nat.mul_comm] at e1
    omega
theorem th_eq2 {w : Int32} (h1 : ¬ w < 1) : ∀ (l : List PT) (p : PT) (n : List SPN) (x : SPN), srt (p :: l) → (∀ q, q ∈ p :: l → 0 ≤ q.1.toInt ∧ q.1.toInt ≤ 1000000000) → x.2.1 = p.1 / w * w + w → l.foldl (adS w) (n ++ [x]) = mTh w (some (p.1 / w)) (n ++ [x]) l
  | [], _, _, _, _, _, _ => rfl
  | q :: l, p, n, x, hs, ht, hx => by
    have hs' := srt_cons.mp hs
    have hpq := hs'.1 q List.mem_cons_self
    have hk := st_ky2 h1 (ht p List.mem_cons_self).1 hpq (ht q (List.mem_cons_of_mem _ List.mem_cons_self)).2
    have ht' : ∀ r, r ∈ q :: l → 0 ≤ r.1.toInt ∧ r.1.toInt ≤ 1000000000 := fun r hr => ht r (List.mem_cons_of_mem _ hr)
    rw [List.foldl_cons, ads_sn, mTh, hx]
    by_cases c : q.1 / w = p.1 / w
    · rw [if_pos (hk.mpr c), show decide (some (p.1 / w) ≠ some (q.1 / w)) = false by simp [c], mAd_n]
      exact th_eq2 h1 l q n (tkS x q.2) hs'.2 ht' (by show x.2.1 = _; rw [hx, c])
    · rw [if_neg (fun z => c (hk.mp z)), show decide (some (p.1 / w) ≠ some (q.1 / w)) = true by
        rw [decide_eq_true_iff]; exact fun z => c (Option.some.inj z).symm, mAd_y]
      exact th_eq2 h1 l q (n ++ [x]) (nwS w q) hs'.2 ht' rfl
theorem th_al2 {w : Int32} (h1 : ¬ w < 1) {l : List PT} {sp : List SPN} (hs : srt l) (ht : ∀ q, q ∈ l → 0 ≤ q.1.toInt ∧ q.1.toInt ≤ 1000000000) (he : ∀ q, q ∈ l → ¬ q.1 < sEnd sp) : l.foldl (adS w) sp = mTh w none sp l := by
  cases l with
  | nil => rfl
  | cons p l =>
    rw [List.foldl_cons, adS_new (he p List.mem_cons_self), mTh, show decide ((none : Option Int32) ≠ some (p.1 / w)) = true by simp, mAd_y]
    exact th_eq2 h1 l p sp (nwS w p) hs ht rfl
theorem th_fl {S : SER} {t w : Int32} (h : WSr S) (ht : tornN S.2.2.2.1 = 0) (hl : S.2.2.2.2 = []) (h1 : ¬ w < 1) : ((mgA S).take (lbl t (mgA S))).foldl (adS w) S.2.2.1 = mTh w none S.2.2.1 ((mpts S.2.2.2.1).take (lbl t (mpts S.2.2.2.1))) := by
  rw [mgA_0 h ht hl]
  exact th_al2 h1 (srt_take h.2.1.2.1 _) (fun q hq => (h.2.1.2.2 q (List.mem_of_mem_take hq)).1) (fun q hq => (h.2.1.2.2 q (List.mem_of_mem_take hq)).2.2)
theorem th_pr {L : List SER} (h : WL L) (i t w : Int32) : ∀ S, ser L i = some S → S.2.2.2.2 = [] → tornN S.2.2.2.1 = 0 → ¬ t < sEnd S.2.2.1 → ¬ w < 1 → sEnd S.2.2.1 - sEnd S.2.2.1 / w * w = 0 → S.2.2.1.length + strN w ((mgA S).take (lbl t (mgA S))) = (((mgA S).take (lbl t (mgA S))).foldl (adS w) S.2.2.1).length ∧ (mgA S).length ≤ 300 := by
  intro S hs hl ht _ h1 _
  have hS := h S (ser_in hs)
  rw [th_fl hS ht hl h1, mgA_0 hS ht hl, mTh_len w _ none _ (fun z => absurd rfl z), mTn_str]
  exact ⟨rfl, hS.2.1.1⟩
theorem thn_eq {L : List SER} (h : WL L) (i t w : Int32) : mThin L i t w = aThin L i t w := by
  unfold mThin aThin
  cases hs : ser L i with
  | none => rfl
  | some S =>
    have hS := h S (ser_in hs)
    dsimp only
    by_cases cb : w < 1 ∨ 1000000 < w ∨ ¬ (¬ t < 0 ∧ ¬ 1000000000 < t) ∨ ¬ t - t / w * w = 0 ∨ t < sEnd S.2.2.1 ∨ ¬ sEnd S.2.2.1 - sEnd S.2.2.1 / w * w = 0
    · rw [if_pos cb, if_pos cb]
    · rw [if_neg cb, if_neg cb]
      have h1 : ¬ w < 1 := fun z => cb (Or.inl z)
      by_cases cs : 0 < S.2.2.2.2.length ∨ 0 < tornN S.2.2.2.1
      · rw [if_pos cs, if_pos cs]
      · rw [if_neg cs, if_neg cs]
        have ht : tornN S.2.2.2.1 = 0 := by
          by_cases z : tornN S.2.2.2.1 = 0
          · exact z
          · exact absurd (Or.inr (by omega)) cs
        have hl : S.2.2.2.2 = [] := by
          by_cases z : S.2.2.2.2 = []
          · exact z
          · exact absurd (Or.inl (List.length_pos_iff.mpr z)) cs
        have e1 : mThS S t w = thS S t w := by
          unfold mThS thS
          rw [th_fl hS ht hl h1, mgA_0 hS ht hl]
        have e2 : (thS S t w).2.2.1 = ((mgA S).take (lbl t (mgA S))).foldl (adS w) S.2.2.1 := rfl
        rw [e1, e2, mgA_0 hS ht hl]
theorem drp_eq {L : List SER} (h : WL L) (i t : Int32) : mDrop L i t = aDrop L i t := by
  unfold mDrop aDrop
  cases hs : ser L i with
  | none => rfl
  | some S =>
    have hS := h S (ser_in hs)
    obtain ⟨e1, e2⟩ := drop_eq t hS.2.2.2.2.1 hS.2.1.2.1 hS.1
    dsimp only
    rw [e1, e2]
/-! order kept -/
theorem WL.put0 {L : List SER} (h : WL L) (i t : Int32) (v : Int64) : WL (aPut L i t v).2 := by
  unfold aPut
  cases hs : ser L i with
  | none => exact h
  | some S => exact h.st0 ((h S (ser_in hs)).pl0 (t, v))
theorem WL.fil0 {L : List SER} (h : WL L) (i t st : Int32) (v ri : Int64) (c : Int32) : WL (aFill L i t st v ri c).2 := by
  unfold aFill
  cases hs : ser L i with
  | none => exact h
  | some S =>
    dsimp only
    split
    · exact h
    · exact h.st0 (WSr.fl0 st ri _ _ _ _ (h S (ser_in hs)))
theorem WL.mrg0 {L : List SER} (h : WL L) (i : Int32) : WL (aMerge L i).2 := by
  unfold aMerge
  cases hs : ser L i with
  | none => exact h
  | some S =>
    dsimp only
    split
    · exact h
    · split
      · exact h
      · exact h.st0 ((h S (ser_in hs)).mg0 (by omega) (by omega))
theorem WL.thn0 {L : List SER} (h : WL L) (i t w : Int32) : WL (aThin L i t w).2 := by
  have hpr := th_pr h i t w
  unfold aThin
  cases hs : ser L i with
  | none => exact h
  | some S =>
    have hS := h S (ser_in hs)
    dsimp only
    by_cases cb : w < 1 ∨ 1000000 < w ∨ ¬ (¬ t < 0 ∧ ¬ 1000000000 < t) ∨ ¬ t - t / w * w = 0 ∨ t < sEnd S.2.2.1 ∨ ¬ sEnd S.2.2.1 - sEnd S.2.2.1 / w * w = 0
    · rw [if_pos cb]; exact h
    · rw [if_neg cb]
      by_cases cs : 0 < S.2.2.2.2.length ∨ 0 < tornN S.2.2.2.1
      · rw [if_pos cs]; exact h
      · rw [if_neg cs]
        have ht : tornN S.2.2.2.1 = 0 := by
          by_cases z : tornN S.2.2.2.1 = 0
          · exact z
          · exact absurd (Or.inr (by omega)) cs
        have hl : S.2.2.2.2 = [] := by
          by_cases z : S.2.2.2.2 = []
          · exact z
          · exact absurd (Or.inl (List.length_pos_iff.mpr z)) cs
        split
        · exact h
        · rename_i cf
          have c1 : ¬ w < 1 := fun z => cb (Or.inl z)
          have c2 : ¬ 1000000 < w := fun z => cb (Or.inr (Or.inl z))
          have c4 : ¬ 1000000000 < t := fun z => cb (Or.inr (Or.inr (Or.inl (fun q => q.2 z))))
          have c5 : t - t / w * w = 0 := Decidable.not_not.mp (fun z => cb (Or.inr (Or.inr (Or.inr (Or.inl z)))))
          have c6 : ¬ t < sEnd S.2.2.1 := fun z => cb (Or.inr (Or.inr (Or.inr (Or.inr (Or.inl z)))))
          have c7 : sEnd S.2.2.1 - sEnd S.2.2.1 / w * w = 0 := Decidable.not_not.mp (fun z => cb (Or.inr (Or.inr (Or.inr (Or.inr (Or.inr z))))))
          have h5 := (hpr S hs hl ht c6 c1 c7).1
          exact h.st0 (hS.th0 ht hl c1 c2 c4 c5 c6 (by omega))
theorem WL.drp0 {L : List SER} (h : WL L) (i t : Int32) : WL (aDrop L i t).2 := by
  unfold aDrop
  cases hs : ser L i with
  | none => exact h
  | some S => exact h.st0 ((h S (ser_in hs)).dr0 t)
theorem WL.ter0 {L : List SER} (h : WL L) (i j k mz : Int32) : WL (aTear L i j k mz).2 := by
  unfold aTear
  cases hs : ser L i with
  | none => exact h
  | some S =>
    have hS := h S (ser_in hs)
    dsimp only
    cases hb : blkA S.2.2.2.1 j with
    | none => exact h
    | some X =>
      have hj : S.2.2.2.1[j.toNatClampNeg]? = some X := by
        unfold blkA at hb
        split at hb
        · cases hb
        · exact hb
      dsimp only
      split
      · split
        · exact h
        · exact h.st0 (hS.te0 hj _)
      · exact h
theorem WL.lab0 {L : List SER} (h : WL L) (i key v : Int32) : WL (aLabel L i key v).2 := by
  unfold aLabel
  cases hs : ser L i with
  | none => exact h
  | some S =>
    dsimp only
    split
    · exact h.st0 (S := setLab S key v) (h S (ser_in hs))
    · exact h
theorem WL.ser0 {L : List SER} (h : WL L) (kd : Int32) : WL (aSeries L kd).2 := by
  unfold aSeries
  split
  · exact h
  · split
    · exact h
    · intro S hS
      rcases List.mem_append.mp hS with f | f
      · exact h S f
      · rw [List.mem_singleton.mp f]; exact WSr.new0 kd
