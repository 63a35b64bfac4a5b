/-! the reference: thinned spans -/
def mAd (w : Int32) (f : Bool) (sp : List SPN) (p : PT) : List SPN := if f then sp ++ [nwS w p] else match sp.getLast? with
  | none => []
  | some x => sp.dropLast ++ [tkS x p.2]
def mTh (w : Int32) : Option Int32 → List SPN → List PT → List SPN
  | _, sp, [] => sp
  | o, sp, p :: l => mTh w (some (p.1 / w)) (mAd w (decide (o ≠ some (p.1 / w))) sp p) l
def mTn (w : Int32) : Option Int32 → List PT → Nat
  | _, [] => 0
  | o, p :: l => (if o = some (p.1 / w) then 0 else 1) + mTn w (some (p.1 / w)) l
theorem mTn_stp (w : Int32) : ∀ (l : List PT) (p : PT), mTn w (some (p.1 / w)) l = stp w p l
  | [], _ => rfl
  | q :: l, p => by
    rw [mTn, stp, mTn_stp w l q]
    by_cases c : q.1 / w = p.1 / w
    · rw [if_pos (by rw [c]), if_pos c]
    · rw [if_neg (fun e => c (Option.some.inj e).symm), if_neg c]
theorem mTn_str (w : Int32) (l : List PT) : mTn w none l = strN w l := by
  cases l with
  | nil => rfl
  | cons p l => rw [mTn, strN, mTn_stp, if_neg (by simp)]
theorem mAd_y (w : Int32) (sp : List SPN) (p : PT) : mAd w true sp p = sp ++ [nwS w p] := rfl
theorem mAd_n (w : Int32) (sp : List SPN) (x : SPN) (p : PT) : mAd w false (sp ++ [x]) p = sp ++ [tkS x p.2] := by
  unfold mAd
  rw [if_neg (by decide), List.getLast?_concat, List.dropLast_concat]
theorem mTh_len (w : Int32) : ∀ (l : List PT) (o : Option Int32) (sp : List SPN), (o ≠ none → sp ≠ []) → (mTh w o sp l).length = sp.length + mTn w o l
  | [], _, _, _ => rfl
  | p :: l, o, sp, h => by
    rw [mTh, mTn]
    by_cases c : o = some (p.1 / w)
    · rw [if_pos c, show decide (o ≠ some (p.1 / w)) = false by simp [c]]
      rcases nil_snoc sp with hn | ⟨sp0, x, rfl⟩
      · exact absurd hn (h (by rw [c]; simp))
      · rw [mAd_n, mTh_len w l _ _ (fun _ => by simp), List.length_append, List.length_append]
        simp only [List.length_cons, List.length_nil]; omega
    · rw [if_neg c, show decide (o ≠ some (p.1 / w)) = true by simp [c], mAd_y, mTh_len w l _ _ (fun _ => by simp), List.length_append]
      simp only [List.length_cons, List.length_nil]; omega
def mThS (S : SER) (t w : Int32) : SER := (S.1, S.2.1, mTh w none S.2.2.1 ((mpts S.2.2.2.1).take (lbl t (mpts S.2.2.2.1))), rb ((mpts S.2.2.2.1).drop (lbl t (mpts S.2.2.2.1))), S.2.2.2.2)
def mThin (L : List SER) (i t w : Int32) : Int32 × List SER := match ser L i with
  | none => (-1, L)
  | some S => if w < 1 ∨ 1000000 < w ∨ ¬ (¬ t < 0 ∧ ¬ 1000000000 < t) ∨ ¬ t - t / w * w = 0 ∨ t < sEnd S.2.2.1 ∨ ¬ sEnd S.2.2.1 - sEnd S.2.2.1 / w * w = 0 then (-2, L)
    else if 0 < S.2.2.2.2.length ∨ 0 < tornN S.2.2.2.1 then (-4, L)
    else if 60 < S.2.2.1.length + strN w ((mpts S.2.2.2.1).take (lbl t (mpts S.2.2.2.1))) then (-5, L)
    else (nI (mThS S t w).2.2.1.length, L.set i.toNatClampNeg (mThS S t w))
