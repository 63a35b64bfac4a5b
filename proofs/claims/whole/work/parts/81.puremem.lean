/-! members of the merged list -/
theorem srt_drop {l : List PT} (h : srt l) (n : Nat) : srt (l.drop n) := List.Pairwise.sublist (List.drop_sublist n l) h
theorem lbl_dr {t : Int32} {l : List PT} (h : srt l) : ∀ q, q ∈ l.drop (lbl t l) → ¬ q.1 < t := by
  intro q hq
  cases hd : l.drop (lbl t l) with
  | nil => rw [hd] at hq; cases hq
  | cons r rs =>
    have h0 : l[lbl t l]? = some r := by
      have : (l.drop (lbl t l))[0]? = some r := by rw [hd]; rfl
      rw [List.getElem?_drop, Nat.add_zero] at this
      exact this
    have hr := lbl_ge t l r h0
    have hs := srt_drop h (lbl t l)
    rw [hd] at hq hs
    rcases List.mem_cons.mp hq with e | e
    · rw [e]; exact hr
    · exact fun d => hr (Int32.lt_trans ((List.pairwise_cons.mp hs).1 q e) d)
