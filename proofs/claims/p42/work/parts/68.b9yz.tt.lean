theorem lns_stop {T : Nat → TT} {n i : Nat} {s : PS} {x : Int × Int} (h : lns T n = some (s, i)) (hs : stp T n s i = some x) : ∀ d, lns T (n + 1 + d) = none
  | 0 => by
    show nxt T (lns T n) = none
    rw [h]
    show (if (T i).k = 0 then none else lnj T (lnx T s i)) = none
    unfold stp at hs
    by_cases c : (T i).k = 0
    · rw [if_pos c]
    · rw [if_neg c] at hs ⊢
      cases hl : lnx T s i with
      | inr p => rfl
      | inl p =>
        obtain ⟨s', j⟩ := p
        rw [hl] at hs
        have hs' : (if (T j).k = 59 then none else some (-1 - (T j).pl, (1 : Int))) = some x := hs
        by_cases c2 : (T j).k = 59
        · rw [if_pos c2] at hs'
          cases hs'
        · show (if (T j).k = 59 then some (s', j + 1) else none) = none
          rw [if_neg c2]
  | d + 1 => by
    have ih := lns_stop h hs d
    show nxt T (lns T (n + 1 + d)) = none
    rw [ih]
    rfl
