theorem ll_deed_n {T : Nat → TT} {nm : Nat → Int} {tg d i : Nat} (ht : tg ≤ 8) (h : ¬ lkc nm 0 tg (T (i + 1)) = 0) : ll_deed T nm tg d i = ll_n (lkc nm 0 tg (T (i + 1))) (i + 1) := by
  unfold ll_deed tnW
  unfold lkc at h ⊢
  rw [fP_0] at h ⊢
  by_cases k : (T (i + 1)).k = 2
  · rw [if_pos k] at h
    rw [if_pos k, if_pos rfl, if_pos k]
    by_cases e : oN (m_fst (gP nm (T (i + 1)).v) tg) = -1
    · rw [if_pos e, (oN_1 ht).mp e]
    · rw [if_neg e] at h
      exact absurd rfl h
  · rw [if_neg k, if_neg k]
    exact if_neg (by decide)
