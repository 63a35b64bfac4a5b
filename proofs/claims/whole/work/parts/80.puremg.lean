/-! the merged list, by lists -/
def mgR : List PT → List PT → List PT
  | [], R => R
  | p :: ps, R => R.take (lbl p.1 R) ++ ((if eqT (R.drop (lbl p.1 R)) 0 p.1 then [] else [p]) ++ mgR ps (R.drop (lbl p.1 R)))
theorem gms_mg (lt : List PT) : ∀ (ps acc : List PT) (j : Nat), (ps.foldl (gm lt) (acc, j)).1 ++ lt.drop (ps.foldl (gm lt) (acc, j)).2 = acc ++ mgR ps (lt.drop j)
  | [], acc, j => rfl
  | p :: ps, acc, j => by
    rw [List.foldl_cons, mgR]
    have e0 : eqT ((lt.drop j).drop (lbl p.1 (lt.drop j))) 0 p.1 = eqT lt (j + lbl p.1 (lt.drop j)) p.1 := by
      unfold eqT
      rw [List.getElem?_drop, List.getElem?_drop, Nat.add_zero]
    rw [e0, List.drop_drop]
    have e1 : gm lt (acc, j) p = if eqT lt (j + lbl p.1 (lt.drop j)) p.1 then (acc ++ (lt.drop j).take (lbl p.1 (lt.drop j)), j + lbl p.1 (lt.drop j)) else (acc ++ (lt.drop j).take (lbl p.1 (lt.drop j)) ++ [p], j + lbl p.1 (lt.drop j)) := rfl
    rw [e1]
    by_cases c : eqT lt (j + lbl p.1 (lt.drop j)) p.1 = true
    · rw [if_pos c, if_pos c, gms_mg lt ps, List.nil_append, List.append_assoc]
    · rw [if_neg c, if_neg c, gms_mg lt ps, List.append_assoc, List.append_assoc]
theorem takA_mg (lt pts : List PT) : takA lt pts = mgR pts lt := by
  unfold takA
  rw [gms_mg lt pts [] 0]; rfl
